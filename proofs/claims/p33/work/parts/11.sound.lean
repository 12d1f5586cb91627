/-! WHAT THE SMALL MACHINE ANSWERS, THE REAL ONE ANSWERS -/
theorem sx_le {i : AI} {L : AL} {st : List AV} {h : AH} {q : Nat × AL × List AV × AH} (hq : sx i L st h = some q) : h.2.2 ≤ q.2.2.2.2.2 ∧ h.1.length ≤ q.2.2.2.1.length := by
  obtain ⟨op9, nx9, a9, b9, ix9⟩ := i
  have hsf : ∀ {r9 c9 j9 : Nat} {v9 : AV} {h9 : AH}, sf h r9 c9 j9 v9 = some h9 → h9.2 = h.2 ∧ h9.1.length = h.1.length := by
    intro r9 c9 j9 v9 h9 e9
    unfold sf at e9
    split at e9
    · split at e9
      · cases e9; exact ⟨rfl, List.length_set⟩
      · cases e9
    · cases e9
  unfold sx at hq
  simp only [] at hq
  split at hq <;> (repeat' (first | (cases hq; done) | split at hq)) <;> first
    | (cases hq; exact ⟨Nat.le_refl _, Nat.le_refl _⟩)
    | (cases hq; exact ⟨Nat.le_refl _, Nat.le_of_eq (List.length_set).symm⟩)
    | (cases hq; exact ⟨by simp only []; omega, by simp⟩)
    | (rename_i e9; cases hq; exact ⟨Nat.le_of_eq (by rw [(hsf e9).1]), Nat.le_of_eq (hsf e9).2.symm⟩)
theorem ax_le : ∀ {n k pc : Nat} {L : AL} {st : List AV} {h : AH} {r : AR}, ax n k pc L st h = some r → h.2.2 ≤ r.2.2.2 ∧ h.1.length ≤ r.2.1.length
  | 0, _, _, _, _, _, _, e9 => by cases e9
  | n + 1, k, pc, L, st, h, r, e9 => by
    unfold ax at e9
    simp only [] at e9
    split at e9
    · cases e9
    · split at e9
      · split at e9
        · split at e9
          · cases e9
          · rename_i u9
            have h1 := ax_le u9
            have h2 := ax_le e9
            exact ⟨Nat.le_trans h1.1 h2.1, Nat.le_trans h1.2 h2.2⟩
          · rename_i u9
            have h1 := ax_le u9
            have h2 := ax_le e9
            exact ⟨Nat.le_trans h1.1 h2.1, Nat.le_trans h1.2 h2.2⟩
          · rename_i u9
            have h1 := ax_le u9
            split at e9
            · cases e9; exact h1
            · split at e9
              · split at e9
                · have h2 := ax_le e9
                  exact ⟨Nat.le_trans h1.1 h2.1, Nat.le_trans h1.2 h2.2⟩
                · cases e9
              · cases e9
        · cases e9
      · split at e9
        · cases e9; exact ⟨Nat.le_refl _, Nat.le_refl _⟩
        · cases e9
      · split at e9
        · split at e9
          · cases e9; exact ⟨Nat.le_refl _, Nat.le_refl _⟩
          · cases e9
        · cases e9
      · split at e9
        · cases e9; exact ⟨Nat.le_refl _, Nat.le_refl _⟩
        · cases e9
      · split at e9
        · cases e9; exact ⟨Nat.le_refl _, Nat.le_refl _⟩
        · cases e9
      · split at e9
        · cases e9; exact ⟨Nat.le_add_right _ _, Nat.le_refl _⟩
        · cases e9
      · split at e9
        · cases e9
        · rename_i u9
          have h1 := sx_le u9
          have h2 := ax_le e9
          exact ⟨Nat.le_trans h1.1 h2.1, Nat.le_trans h1.2 h2.2⟩
/-- all plain instructions in one -/
theorem snd_all {p : Program} {l : Launch} {e : Env} {R : Room} {s : State} {m : MethodId} {args : Array Value} {below : List Frame} {meth : Method} {c : Code} {Q : State → Prop} {b Lx : Nat} {xs : Nat → Int32} {cA : Nat → ClassId} {D : va_G} {A : Nat → Prop}
    {k pc : Nat} {i : AI} {L L' : AL} {st st' : List AV} {h h' : AH} {pc' : Nat} {H : Heap} {locs : List Loc} {ad : Nat → Nat} {ls : Array Slot} {cells : Nat}
    (hi : vok k (pc, i) = true) (F : FX p l R s m args meth c b Lx xs cA D A k) (hH : HR b Lx xs cA D A s H locs ad h) (hL : LH b ad ls (mt k).2.1 L) (hw : wfS h.1.length L st) (hc1 : cells + h'.2.2 ≤ R.cells + h.2.2) (hc2 : cells + h'.2.2 ≤ R.slots + h.2.2)
    (hs : sx i L st h = some (pc', L', st', h')) (K : KONT p l e R s m args below meth c Q b Lx xs cA D A k ad h cells pc' L' st' h') : W p l e R s m args below meth c H locs cells cells Q (F0 m pc ls (st.map (cV b ad))) := by
  obtain ⟨op9, nx9, a9, b9, ix9⟩ := i
  by_cases hop : op9 < 49
  · have hop2 : op9 ∈ List.range 49 := List.mem_range.mpr hop
    match op9, hi, hs with
    | 0, hi, hs => exact snd_0 hi F hH hL hw hc1 hc2 hs K
    | 1, hi, hs => exact snd_1 hi F hH hL hw hc1 hc2 hs K
    | 2, hi, hs => exact snd_2 hi F hH hL hw hc1 hc2 hs K
    | 3, hi, hs => exact snd_3 hi F hH hL hw hc1 hc2 hs K
    | 4, hi, hs => exact snd_4 hi F hH hL hw hc1 hc2 hs K
    | 5, hi, hs => exact snd_5 hi F hH hL hw hc1 hc2 hs K
    | 6, hi, hs => exact snd_6 hi F hH hL hw hc1 hc2 hs K
    | 7, hi, hs => exact snd_7 hi F hH hL hw hc1 hc2 hs K
    | 8, hi, hs => exact snd_8 hi F hH hL hw hc1 hc2 hs K
    | 9, hi, hs => exact snd_9 hi F hH hL hw hc1 hc2 hs K
    | 10, hi, hs => exact snd_10 hi F hH hL hw hc1 hc2 hs K
    | 11, hi, hs => exact snd_11 hi F hH hL hw hc1 hc2 hs K
    | 12, hi, hs => exact snd_12 hi F hH hL hw hc1 hc2 hs K
    | 13, hi, hs => exact snd_13 hi F hH hL hw hc1 hc2 hs K
    | 14, hi, hs => exact snd_14 hi F hH hL hw hc1 hc2 hs K
    | 15, hi, hs => exact snd_15 hi F hH hL hw hc1 hc2 hs K
    | 16, hi, hs => exact snd_16 hi F hH hL hw hc1 hc2 hs K
    | 17, hi, hs => exact snd_17 hi F hH hL hw hc1 hc2 hs K
    | 18, hi, hs => exact snd_18 hi F hH hL hw hc1 hc2 hs K
    | 19, hi, hs => exact snd_19 hi F hH hL hw hc1 hc2 hs K
    | 20, hi, hs => exact snd_20 hi F hH hL hw hc1 hc2 hs K
    | 21, hi, hs => exact snd_21 hi F hH hL hw hc1 hc2 hs K
    | 22, hi, hs => exact snd_22 hi F hH hL hw hc1 hc2 hs K
    | 23, hi, hs => exact snd_23 hi F hH hL hw hc1 hc2 hs K
    | 24, hi, hs => exact snd_24 hi F hH hL hw hc1 hc2 hs K
    | 25, hi, hs => exact snd_25 hi F hH hL hw hc1 hc2 hs K
    | 26, hi, hs => exact snd_26 hi F hH hL hw hc1 hc2 hs K
    | 27, hi, hs => exact snd_27 hi F hH hL hw hc1 hc2 hs K
    | 28, hi, hs => exact snd_28 hi F hH hL hw hc1 hc2 hs K
    | 29, hi, hs => exact snd_29 hi F hH hL hw hc1 hc2 hs K
    | 30, hi, hs => exact snd_30 hi F hH hL hw hc1 hc2 hs K
    | 31, hi, hs => exact snd_31 hi F hH hL hw hc1 hc2 hs K
    | 32, hi, hs => exact snd_32 hi F hH hL hw hc1 hc2 hs K
    | 33, hi, hs => exact snd_33 hi F hH hL hw hc1 hc2 hs K
    | 34, hi, hs => exact snd_34 hi F hH hL hw hc1 hc2 hs K
    | 35, hi, hs => exact snd_35 hi F hH hL hw hc1 hc2 hs K
    | 36, hi, hs => exact snd_36 hi F hH hL hw hc1 hc2 hs K
    | 37, hi, hs => exact snd_37 hi F hH hL hw hc1 hc2 hs K
    | 38, hi, hs => exact snd_38 hi F hH hL hw hc1 hc2 hs K
    | 39, hi, hs => exact snd_39 hi F hH hL hw hc1 hc2 hs K
    | 40, hi, hs => exact snd_40 hi F hH hL hw hc1 hc2 hs K
    | 41, hi, hs => exact snd_41 hi F hH hL hw hc1 hc2 hs K
    | 42, hi, hs => exact snd_42 hi F hH hL hw hc1 hc2 hs K
    | 43, hi, hs => exact snd_43 hi F hH hL hw hc1 hc2 hs K
    | 44, hi, hs => exact snd_44 hi F hH hL hw hc1 hc2 hs K
    | 45, hi, hs => exact snd_45 hi F hH hL hw hc1 hc2 hs K
    | 46, hi, hs => exact snd_46 hi F hH hL hw hc1 hc2 hs K
    | 47, hi, hs => exact snd_47 hi F hH hL hw hc1 hc2 hs K
    | 48, hi, hs => exact snd_48 hi F hH hL hw hc1 hc2 hs K
    | n9 + 49, _, _ => omega
  · unfold sx at hs
    simp only [] at hs
    split at hs <;> first | (cases hs; done) | (exact absurd (by omega) hop)
