theorem vk_111 : (tb_111.all (vok 111)) = true := by decide +kernel
theorem vk_112_0 : (((tb_112.drop 0).take 80).all (vok 112)) = true := by decide +kernel
theorem vk_112_80 : (((tb_112.drop 80).take 80).all (vok 112)) = true := by decide +kernel
theorem vk_112_160 : (((tb_112.drop 160).take 80).all (vok 112)) = true := by decide +kernel
theorem vk_112 : (tb_112.all (vok 112)) = true := by
  rw [← List.take_append_drop 80 tb_112, List.all_append]
  have h0 := vk_112_0
  rw [List.drop_zero] at h0
  rw [h0]
  rw [← List.take_append_drop 80 (tb_112.drop 80), List.all_append, vk_112_80, List.drop_drop]
  decide +kernel
theorem vk_113 : (tb_113.all (vok 113)) = true := by decide +kernel
theorem vk_114_0 : (((tb_114.drop 0).take 80).all (vok 114)) = true := by decide +kernel
theorem vk_114_80 : (((tb_114.drop 80).take 80).all (vok 114)) = true := by decide +kernel
theorem vk_114_160 : (((tb_114.drop 160).take 80).all (vok 114)) = true := by decide +kernel
theorem vk_114_240 : (((tb_114.drop 240).take 80).all (vok 114)) = true := by decide +kernel
theorem vk_114 : (tb_114.all (vok 114)) = true := by
  rw [← List.take_append_drop 80 tb_114, List.all_append]
  have h0 := vk_114_0
  rw [List.drop_zero] at h0
  rw [h0]
  rw [← List.take_append_drop 80 (tb_114.drop 80), List.all_append, vk_114_80, List.drop_drop]
  rw [← List.take_append_drop 80 (tb_114.drop 160), List.all_append, vk_114_160, List.drop_drop]
  decide +kernel
theorem vk_115 : (tb_115.all (vok 115)) = true := by decide +kernel
theorem vk_116_0 : (((tb_116.drop 0).take 80).all (vok 116)) = true := by decide +kernel
theorem vk_116_80 : (((tb_116.drop 80).take 80).all (vok 116)) = true := by decide +kernel
theorem vk_116_160 : (((tb_116.drop 160).take 80).all (vok 116)) = true := by decide +kernel
theorem vk_116 : (tb_116.all (vok 116)) = true := by
  rw [← List.take_append_drop 80 tb_116, List.all_append]
  have h0 := vk_116_0
  rw [List.drop_zero] at h0
  rw [h0]
  rw [← List.take_append_drop 80 (tb_116.drop 80), List.all_append, vk_116_80, List.drop_drop]
  decide +kernel
theorem vk_117 : (tb_117.all (vok 117)) = true := by decide +kernel
theorem vk_118 : (tb_118.all (vok 118)) = true := by decide +kernel
theorem vk_119 : (tb_119.all (vok 119)) = true := by decide +kernel
