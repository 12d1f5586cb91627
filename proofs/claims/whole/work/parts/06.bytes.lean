theorem vk_195_0 : (((tb_195.drop 0).take 80).all (vok 195)) = true := by decide +kernel
theorem vk_195_80 : (((tb_195.drop 80).take 80).all (vok 195)) = true := by decide +kernel
theorem vk_195_160 : (((tb_195.drop 160).take 80).all (vok 195)) = true := by decide +kernel
theorem vk_195_240 : (((tb_195.drop 240).take 80).all (vok 195)) = true := by decide +kernel
theorem vk_195_320 : (((tb_195.drop 320).take 80).all (vok 195)) = true := by decide +kernel
theorem vk_195_400 : (((tb_195.drop 400).take 80).all (vok 195)) = true := by decide +kernel
theorem vk_195_480 : (((tb_195.drop 480).take 80).all (vok 195)) = true := by decide +kernel
theorem vk_195_560 : (((tb_195.drop 560).take 80).all (vok 195)) = true := by decide +kernel
theorem vk_195_640 : (((tb_195.drop 640).take 80).all (vok 195)) = true := by decide +kernel
theorem vk_195_720 : (((tb_195.drop 720).take 80).all (vok 195)) = true := by decide +kernel
theorem vk_195_800 : (((tb_195.drop 800).take 80).all (vok 195)) = true := by decide +kernel
theorem vk_195_880 : (((tb_195.drop 880).take 80).all (vok 195)) = true := by decide +kernel
theorem vk_195_960 : (((tb_195.drop 960).take 80).all (vok 195)) = true := by decide +kernel
theorem vk_195 : (tb_195.all (vok 195)) = true := by
  rw [← List.take_append_drop 80 tb_195, List.all_append]
  have h0 := vk_195_0
  rw [List.drop_zero] at h0
  rw [h0]
  rw [← List.take_append_drop 80 (tb_195.drop 80), List.all_append, vk_195_80, List.drop_drop]
  rw [← List.take_append_drop 80 (tb_195.drop 160), List.all_append, vk_195_160, List.drop_drop]
  rw [← List.take_append_drop 80 (tb_195.drop 240), List.all_append, vk_195_240, List.drop_drop]
  rw [← List.take_append_drop 80 (tb_195.drop 320), List.all_append, vk_195_320, List.drop_drop]
  rw [← List.take_append_drop 80 (tb_195.drop 400), List.all_append, vk_195_400, List.drop_drop]
  rw [← List.take_append_drop 80 (tb_195.drop 480), List.all_append, vk_195_480, List.drop_drop]
  rw [← List.take_append_drop 80 (tb_195.drop 560), List.all_append, vk_195_560, List.drop_drop]
  rw [← List.take_append_drop 80 (tb_195.drop 640), List.all_append, vk_195_640, List.drop_drop]
  rw [← List.take_append_drop 80 (tb_195.drop 720), List.all_append, vk_195_720, List.drop_drop]
  rw [← List.take_append_drop 80 (tb_195.drop 800), List.all_append, vk_195_800, List.drop_drop]
  rw [← List.take_append_drop 80 (tb_195.drop 880), List.all_append, vk_195_880, List.drop_drop]
  decide +kernel
