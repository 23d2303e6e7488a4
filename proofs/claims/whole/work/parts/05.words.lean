theorem in_tbl {q : Cond} (h : q ∈ tables_1) : q ∈ lw_tbl := List.mem_append_right _ h
theorem in_sel {q : Cond} (h : q ∈ k2_sels lw_privs) : q ∈ lw_tbl := List.mem_append_left _ h

theorem xf_0_0 {g : GX} {im : IM} {a : Nat} : xFld g im a 0 0 = .ref (g.1 (a + 1)) := rfl
theorem in_X0 : ∀ w ∈ u_ws RX0 TX0 1, w ∈ xT := by
  intro w hw
  have h : ∀ k, k < 1 → u_lay RX0 TX0 k ∈ xT := by
    intro k hk
    have hk : k = 0 := by omega
    rcases hk with rfl
    · exact xT_in (in_tbl (List.mem_of_getElem? (i := 160) (by decide +kernel))) (by decide +kernel)
  obtain ⟨k, hk, rfl⟩ := List.mem_map.mp hw
  exact h k (List.mem_range.mp hk)
theorem xf_1_0 {g : GX} {im : IM} {a : Nat} : xFld g im a 1 0 = .ref (g.1 (a + 1)) := rfl
theorem xf_1_1 {g : GX} {im : IM} {a : Nat} : xFld g im a 1 1 = .int (im a 1) := rfl
theorem xf_1_2 {g : GX} {im : IM} {a : Nat} : xFld g im a 1 2 = .ref (g.1 (a + 2)) := rfl
theorem xf_1_3 {g : GX} {im : IM} {a : Nat} : xFld g im a 1 3 = .ref (g.1 (a + 3)) := rfl
theorem xf_1_4 {g : GX} {im : IM} {a : Nat} : xFld g im a 1 4 = .ref (g.1 (a + 4)) := rfl
theorem xf_1_5 {g : GX} {im : IM} {a : Nat} : xFld g im a 1 5 = .ref (g.1 (a + 5)) := rfl
theorem xf_1_6 {g : GX} {im : IM} {a : Nat} : xFld g im a 1 6 = .int (im a 6) := rfl
theorem xf_1_7 {g : GX} {im : IM} {a : Nat} : xFld g im a 1 7 = .int (im a 7) := rfl
theorem xf_1_8 {g : GX} {im : IM} {a : Nat} : xFld g im a 1 8 = .int (im a 8) := rfl
theorem xf_1_9 {g : GX} {im : IM} {a : Nat} : xFld g im a 1 9 = .int (im a 9) := rfl
theorem xf_1_10 {g : GX} {im : IM} {a : Nat} : xFld g im a 1 10 = .int (im a 10) := rfl
theorem in_X1 : ∀ w ∈ u_ws RX1 TX1 11, w ∈ xT := by
  intro w hw
  have h : ∀ k, k < 11 → u_lay RX1 TX1 k ∈ xT := by
    intro k hk
    have hk : k = 0 ∨ k = 1 ∨ k = 2 ∨ k = 3 ∨ k = 4 ∨ k = 5 ∨ k = 6 ∨ k = 7 ∨ k = 8 ∨ k = 9 ∨ k = 10 := by omega
    rcases hk with rfl | rfl | rfl | rfl | rfl | rfl | rfl | rfl | rfl | rfl | rfl
    · exact xT_in (in_tbl (List.mem_of_getElem? (i := 181) (by decide +kernel))) (by decide +kernel)
    · exact xT_in (in_tbl (List.mem_of_getElem? (i := 183) (by decide +kernel))) (by decide +kernel)
    · exact xT_in (in_tbl (List.mem_of_getElem? (i := 185) (by decide +kernel))) (by decide +kernel)
    · exact xT_in (in_tbl (List.mem_of_getElem? (i := 187) (by decide +kernel))) (by decide +kernel)
    · exact xT_in (in_tbl (List.mem_of_getElem? (i := 189) (by decide +kernel))) (by decide +kernel)
    · exact xT_in (in_tbl (List.mem_of_getElem? (i := 191) (by decide +kernel))) (by decide +kernel)
    · exact xT_in (in_tbl (List.mem_of_getElem? (i := 193) (by decide +kernel))) (by decide +kernel)
    · exact xT_in (in_tbl (List.mem_of_getElem? (i := 195) (by decide +kernel))) (by decide +kernel)
    · exact xT_in (in_tbl (List.mem_of_getElem? (i := 197) (by decide +kernel))) (by decide +kernel)
    · exact xT_in (in_tbl (List.mem_of_getElem? (i := 199) (by decide +kernel))) (by decide +kernel)
    · exact xT_in (in_tbl (List.mem_of_getElem? (i := 201) (by decide +kernel))) (by decide +kernel)
  obtain ⟨k, hk, rfl⟩ := List.mem_map.mp hw
  exact h k (List.mem_range.mp hk)
theorem xf_2_0 {g : GX} {im : IM} {a : Nat} : xFld g im a 2 0 = .ref (g.1 (a + 1)) := rfl
theorem xf_2_1 {g : GX} {im : IM} {a : Nat} : xFld g im a 2 1 = .int (im a 1) := rfl
theorem xf_2_2 {g : GX} {im : IM} {a : Nat} : xFld g im a 2 2 = .int (im a 2) := rfl
theorem xf_2_3 {g : GX} {im : IM} {a : Nat} : xFld g im a 2 3 = .int (im a 3) := rfl
theorem in_X2 : ∀ w ∈ u_ws RX2 TX2 4, w ∈ xT := by
  intro w hw
  have h : ∀ k, k < 4 → u_lay RX2 TX2 k ∈ xT := by
    intro k hk
    have hk : k = 0 ∨ k = 1 ∨ k = 2 ∨ k = 3 := by omega
    rcases hk with rfl | rfl | rfl | rfl
    · exact xT_in (in_tbl (List.mem_of_getElem? (i := 144) (by decide +kernel))) (by decide +kernel)
    · exact xT_in (in_tbl (List.mem_of_getElem? (i := 146) (by decide +kernel))) (by decide +kernel)
    · exact xT_in (in_tbl (List.mem_of_getElem? (i := 148) (by decide +kernel))) (by decide +kernel)
    · exact xT_in (in_tbl (List.mem_of_getElem? (i := 150) (by decide +kernel))) (by decide +kernel)
  obtain ⟨k, hk, rfl⟩ := List.mem_map.mp hw
  exact h k (List.mem_range.mp hk)
theorem xf_3_0 {g : GX} {im : IM} {a : Nat} : xFld g im a 3 0 = .ref (g.1 (a + 1)) := rfl
theorem xf_3_1 {g : GX} {im : IM} {a : Nat} : xFld g im a 3 1 = .int (im a 1) := rfl
theorem xf_3_2 {g : GX} {im : IM} {a : Nat} : xFld g im a 3 2 = .int (im a 2) := rfl
theorem in_X3 : ∀ w ∈ u_ws RX3 TX3 3, w ∈ xT := by
  intro w hw
  have h : ∀ k, k < 3 → u_lay RX3 TX3 k ∈ xT := by
    intro k hk
    have hk : k = 0 ∨ k = 1 ∨ k = 2 := by omega
    rcases hk with rfl | rfl | rfl
    · exact xT_in (in_tbl (List.mem_of_getElem? (i := 217) (by decide +kernel))) (by decide +kernel)
    · exact xT_in (in_tbl (List.mem_of_getElem? (i := 219) (by decide +kernel))) (by decide +kernel)
    · exact xT_in (in_tbl (List.mem_of_getElem? (i := 221) (by decide +kernel))) (by decide +kernel)
  obtain ⟨k, hk, rfl⟩ := List.mem_map.mp hw
  exact h k (List.mem_range.mp hk)
theorem xf_4_0 {g : GX} {im : IM} {a : Nat} : xFld g im a 4 0 = .int (im a 0) := rfl
theorem xf_4_1 {g : GX} {im : IM} {a : Nat} : xFld g im a 4 1 = .int (im a 1) := rfl
theorem xf_4_2 {g : GX} {im : IM} {a : Nat} : xFld g im a 4 2 = .int (im a 2) := rfl
theorem xf_4_3 {g : GX} {im : IM} {a : Nat} : xFld g im a 4 3 = .int (im a 3) := rfl
theorem xf_4_4 {g : GX} {im : IM} {a : Nat} : xFld g im a 4 4 = .int (im a 4) := rfl
theorem xf_4_5 {g : GX} {im : IM} {a : Nat} : xFld g im a 4 5 = .int (im a 5) := rfl
theorem xf_4_6 {g : GX} {im : IM} {a : Nat} : xFld g im a 4 6 = .int (im a 6) := rfl
theorem xf_4_7 {g : GX} {im : IM} {a : Nat} : xFld g im a 4 7 = .int (im a 7) := rfl
theorem in_X4 : ∀ w ∈ u_ws RX4 TX4 8, w ∈ xT := by
  intro w hw
  have h : ∀ k, k < 8 → u_lay RX4 TX4 k ∈ xT := by
    intro k hk
    have hk : k = 0 ∨ k = 1 ∨ k = 2 ∨ k = 3 ∨ k = 4 ∨ k = 5 ∨ k = 6 ∨ k = 7 := by omega
    rcases hk with rfl | rfl | rfl | rfl | rfl | rfl | rfl | rfl
    · exact xT_in (in_tbl (List.mem_of_getElem? (i := 65) (by decide +kernel))) (by decide +kernel)
    · exact xT_in (in_tbl (List.mem_of_getElem? (i := 67) (by decide +kernel))) (by decide +kernel)
    · exact xT_in (in_tbl (List.mem_of_getElem? (i := 69) (by decide +kernel))) (by decide +kernel)
    · exact xT_in (in_tbl (List.mem_of_getElem? (i := 71) (by decide +kernel))) (by decide +kernel)
    · exact xT_in (in_tbl (List.mem_of_getElem? (i := 73) (by decide +kernel))) (by decide +kernel)
    · exact xT_in (in_tbl (List.mem_of_getElem? (i := 75) (by decide +kernel))) (by decide +kernel)
    · exact xT_in (in_tbl (List.mem_of_getElem? (i := 77) (by decide +kernel))) (by decide +kernel)
    · exact xT_in (in_tbl (List.mem_of_getElem? (i := 79) (by decide +kernel))) (by decide +kernel)
  obtain ⟨k, hk, rfl⟩ := List.mem_map.mp hw
  exact h k (List.mem_range.mp hk)
theorem xf_5_0 {g : GX} {im : IM} {a : Nat} : xFld g im a 5 0 = .ref (g.1 (a + 1)) := rfl
theorem xf_5_1 {g : GX} {im : IM} {a : Nat} : xFld g im a 5 1 = .ref (g.1 (a + 2)) := rfl
theorem xf_5_2 {g : GX} {im : IM} {a : Nat} : xFld g im a 5 2 = .ref (g.1 (a + 3)) := rfl
theorem xf_5_3 {g : GX} {im : IM} {a : Nat} : xFld g im a 5 3 = .ref (g.1 (a + 4)) := rfl
theorem xf_5_4 {g : GX} {im : IM} {a : Nat} : xFld g im a 5 4 = .int (im a 4) := rfl
theorem xf_5_5 {g : GX} {im : IM} {a : Nat} : xFld g im a 5 5 = .int (im a 5) := rfl
theorem xf_5_6 {g : GX} {im : IM} {a : Nat} : xFld g im a 5 6 = .int (im a 6) := rfl
theorem xf_5_7 {g : GX} {im : IM} {a : Nat} : xFld g im a 5 7 = .int (im a 7) := rfl
theorem xf_5_8 {g : GX} {im : IM} {a : Nat} : xFld g im a 5 8 = .int (im a 8) := rfl
theorem in_X5 : ∀ w ∈ u_ws RX5 TX5 9, w ∈ xT := by
  intro w hw
  have h : ∀ k, k < 9 → u_lay RX5 TX5 k ∈ xT := by
    intro k hk
    have hk : k = 0 ∨ k = 1 ∨ k = 2 ∨ k = 3 ∨ k = 4 ∨ k = 5 ∨ k = 6 ∨ k = 7 ∨ k = 8 := by omega
    rcases hk with rfl | rfl | rfl | rfl | rfl | rfl | rfl | rfl | rfl
    · exact xT_in (in_tbl (List.mem_of_getElem? (i := 110) (by decide +kernel))) (by decide +kernel)
    · exact xT_in (in_tbl (List.mem_of_getElem? (i := 112) (by decide +kernel))) (by decide +kernel)
    · exact xT_in (in_tbl (List.mem_of_getElem? (i := 114) (by decide +kernel))) (by decide +kernel)
    · exact xT_in (in_tbl (List.mem_of_getElem? (i := 116) (by decide +kernel))) (by decide +kernel)
    · exact xT_in (in_tbl (List.mem_of_getElem? (i := 118) (by decide +kernel))) (by decide +kernel)
    · exact xT_in (in_tbl (List.mem_of_getElem? (i := 120) (by decide +kernel))) (by decide +kernel)
    · exact xT_in (in_tbl (List.mem_of_getElem? (i := 122) (by decide +kernel))) (by decide +kernel)
    · exact xT_in (in_tbl (List.mem_of_getElem? (i := 124) (by decide +kernel))) (by decide +kernel)
    · exact xT_in (in_tbl (List.mem_of_getElem? (i := 126) (by decide +kernel))) (by decide +kernel)
  obtain ⟨k, hk, rfl⟩ := List.mem_map.mp hw
  exact h k (List.mem_range.mp hk)
theorem xf_6_0 {g : GX} {im : IM} {a : Nat} : xFld g im a 6 0 = .ref (g.1 (a + 1)) := rfl
theorem xf_6_1 {g : GX} {im : IM} {a : Nat} : xFld g im a 6 1 = .ref (g.1 (a + 16)) := rfl
theorem xf_6_2 {g : GX} {im : IM} {a : Nat} : xFld g im a 6 2 = .int (im a 2) := rfl
theorem xf_6_3 {g : GX} {im : IM} {a : Nat} : xFld g im a 6 3 = .ref (g.1 (a + 31)) := rfl
theorem xf_6_4 {g : GX} {im : IM} {a : Nat} : xFld g im a 6 4 = .ref (g.1 (a + 46)) := rfl
theorem xf_6_5 {g : GX} {im : IM} {a : Nat} : xFld g im a 6 5 = .ref (g.1 (a + 61)) := rfl
theorem xf_6_6 {g : GX} {im : IM} {a : Nat} : xFld g im a 6 6 = .ref (g.1 (a + 63)) := rfl
theorem xf_6_7 {g : GX} {im : IM} {a : Nat} : xFld g im a 6 7 = .ref (g.1 (a + 65)) := rfl
theorem xf_6_8 {g : GX} {im : IM} {a : Nat} : xFld g im a 6 8 = .ref (g.1 (a + 66)) := rfl
theorem xf_6_9 {g : GX} {im : IM} {a : Nat} : xFld g im a 6 9 = .ref (g.1 (a + 72)) := rfl
theorem xf_6_10 {g : GX} {im : IM} {a : Nat} : xFld g im a 6 10 = .ref (g.1 (a + 73)) := rfl
theorem in_X6 : ∀ w ∈ u_ws RX6 TX6 11, w ∈ xT := by
  intro w hw
  have h : ∀ k, k < 11 → u_lay RX6 TX6 k ∈ xT := by
    intro k hk
    have hk : k = 0 ∨ k = 1 ∨ k = 2 ∨ k = 3 ∨ k = 4 ∨ k = 5 ∨ k = 6 ∨ k = 7 ∨ k = 8 ∨ k = 9 ∨ k = 10 := by omega
    rcases hk with rfl | rfl | rfl | rfl | rfl | rfl | rfl | rfl | rfl | rfl | rfl
    · exact xT_in (in_tbl (List.mem_of_getElem? (i := 235) (by decide +kernel))) (by decide +kernel)
    · exact xT_in (in_tbl (List.mem_of_getElem? (i := 237) (by decide +kernel))) (by decide +kernel)
    · exact xT_in (in_tbl (List.mem_of_getElem? (i := 239) (by decide +kernel))) (by decide +kernel)
    · exact xT_in (in_tbl (List.mem_of_getElem? (i := 241) (by decide +kernel))) (by decide +kernel)
    · exact xT_in (in_tbl (List.mem_of_getElem? (i := 243) (by decide +kernel))) (by decide +kernel)
    · exact xT_in (in_tbl (List.mem_of_getElem? (i := 245) (by decide +kernel))) (by decide +kernel)
    · exact xT_in (in_tbl (List.mem_of_getElem? (i := 247) (by decide +kernel))) (by decide +kernel)
    · exact xT_in (in_tbl (List.mem_of_getElem? (i := 249) (by decide +kernel))) (by decide +kernel)
    · exact xT_in (in_tbl (List.mem_of_getElem? (i := 251) (by decide +kernel))) (by decide +kernel)
    · exact xT_in (in_tbl (List.mem_of_getElem? (i := 253) (by decide +kernel))) (by decide +kernel)
    · exact xT_in (in_tbl (List.mem_of_getElem? (i := 255) (by decide +kernel))) (by decide +kernel)
  obtain ⟨k, hk, rfl⟩ := List.mem_map.mp hw
  exact h k (List.mem_range.mp hk)
theorem xf_7_0 {g : GX} {im : IM} {a : Nat} : xFld g im a 7 0 = .ref (g.1 (a + 1)) := rfl
theorem xf_7_1 {g : GX} {im : IM} {a : Nat} : xFld g im a 7 1 = .ref (g.1 (a + 2)) := rfl
theorem xf_7_2 {g : GX} {im : IM} {a : Nat} : xFld g im a 7 2 = .ref (g.1 (a + 3)) := rfl
theorem xf_7_3 {g : GX} {im : IM} {a : Nat} : xFld g im a 7 3 = .ref (g.1 (a + 4)) := rfl
theorem xf_7_4 {g : GX} {im : IM} {a : Nat} : xFld g im a 7 4 = .int (im a 4) := rfl
theorem xf_7_5 {g : GX} {im : IM} {a : Nat} : xFld g im a 7 5 = .int (im a 5) := rfl
theorem xf_7_6 {g : GX} {im : IM} {a : Nat} : xFld g im a 7 6 = .int (im a 6) := rfl
theorem xf_7_7 {g : GX} {im : IM} {a : Nat} : xFld g im a 7 7 = .int (im a 7) := rfl
theorem xf_7_8 {g : GX} {im : IM} {a : Nat} : xFld g im a 7 8 = .int (im a 8) := rfl
theorem xf_7_9 {g : GX} {im : IM} {a : Nat} : xFld g im a 7 9 = .int (im a 9) := rfl
theorem xf_7_10 {g : GX} {im : IM} {a : Nat} : xFld g im a 7 10 = .int (im a 10) := rfl
theorem xf_7_11 {g : GX} {im : IM} {a : Nat} : xFld g im a 7 11 = .int (im a 11) := rfl
theorem xf_7_12 {g : GX} {im : IM} {a : Nat} : xFld g im a 7 12 = .ref (g.1 (a + 5)) := rfl
theorem xf_7_13 {g : GX} {im : IM} {a : Nat} : xFld g im a 7 13 = .ref (g.1 (a + 6)) := rfl
theorem xf_7_14 {g : GX} {im : IM} {a : Nat} : xFld g im a 7 14 = .int (im a 14) := rfl
theorem xf_7_15 {g : GX} {im : IM} {a : Nat} : xFld g im a 7 15 = .ref (g.1 (a + 7)) := rfl
theorem xf_7_16 {g : GX} {im : IM} {a : Nat} : xFld g im a 7 16 = .int (im a 16) := rfl
theorem xf_7_17 {g : GX} {im : IM} {a : Nat} : xFld g im a 7 17 = .int (im a 17) := rfl
theorem xf_7_18 {g : GX} {im : IM} {a : Nat} : xFld g im a 7 18 = .int (im a 18) := rfl
theorem xf_7_19 {g : GX} {im : IM} {a : Nat} : xFld g im a 7 19 = .int (im a 19) := rfl
theorem xf_7_20 {g : GX} {im : IM} {a : Nat} : xFld g im a 7 20 = .int (im a 20) := rfl
theorem xf_7_21 {g : GX} {im : IM} {a : Nat} : xFld g im a 7 21 = .int (im a 21) := rfl
theorem xf_7_22 {g : GX} {im : IM} {a : Nat} : xFld g im a 7 22 = .int (im a 22) := rfl
theorem xf_7_23 {g : GX} {im : IM} {a : Nat} : xFld g im a 7 23 = .ref (g.1 (a + 8)) := rfl
theorem xf_7_24 {g : GX} {im : IM} {a : Nat} : xFld g im a 7 24 = .ref (g.1 (a + 9)) := rfl
theorem xf_7_25 {g : GX} {im : IM} {a : Nat} : xFld g im a 7 25 = .ref (g.1 (a + 10)) := rfl
theorem xf_7_26 {g : GX} {im : IM} {a : Nat} : xFld g im a 7 26 = .ref (g.1 (a + 11)) := rfl
theorem in_X7 : ∀ w ∈ u_ws RX7 TX7 27, w ∈ xT := by
  intro w hw
  have h : ∀ k, k < 27 → u_lay RX7 TX7 k ∈ xT := by
    intro k hk
    have hk : k = 0 ∨ k = 1 ∨ k = 2 ∨ k = 3 ∨ k = 4 ∨ k = 5 ∨ k = 6 ∨ k = 7 ∨ k = 8 ∨ k = 9 ∨ k = 10 ∨ k = 11 ∨ k = 12 ∨ k = 13 ∨ k = 14 ∨ k = 15 ∨ k = 16 ∨ k = 17 ∨ k = 18 ∨ k = 19 ∨ k = 20 ∨ k = 21 ∨ k = 22 ∨ k = 23 ∨ k = 24 ∨ k = 25 ∨ k = 26 := by omega
    rcases hk with rfl | rfl | rfl | rfl | rfl | rfl | rfl | rfl | rfl | rfl | rfl | rfl | rfl | rfl | rfl | rfl | rfl | rfl | rfl | rfl | rfl | rfl | rfl | rfl | rfl | rfl | rfl
    · exact xT_in (in_tbl (List.mem_of_getElem? (i := 951) (by decide +kernel))) (by decide +kernel)
    · exact xT_in (in_tbl (List.mem_of_getElem? (i := 953) (by decide +kernel))) (by decide +kernel)
    · exact xT_in (in_tbl (List.mem_of_getElem? (i := 955) (by decide +kernel))) (by decide +kernel)
    · exact xT_in (in_tbl (List.mem_of_getElem? (i := 957) (by decide +kernel))) (by decide +kernel)
    · exact xT_in (in_tbl (List.mem_of_getElem? (i := 959) (by decide +kernel))) (by decide +kernel)
    · exact xT_in (in_tbl (List.mem_of_getElem? (i := 961) (by decide +kernel))) (by decide +kernel)
    · exact xT_in (in_tbl (List.mem_of_getElem? (i := 963) (by decide +kernel))) (by decide +kernel)
    · exact xT_in (in_tbl (List.mem_of_getElem? (i := 965) (by decide +kernel))) (by decide +kernel)
    · exact xT_in (in_tbl (List.mem_of_getElem? (i := 967) (by decide +kernel))) (by decide +kernel)
    · exact xT_in (in_tbl (List.mem_of_getElem? (i := 969) (by decide +kernel))) (by decide +kernel)
    · exact xT_in (in_tbl (List.mem_of_getElem? (i := 971) (by decide +kernel))) (by decide +kernel)
    · exact xT_in (in_tbl (List.mem_of_getElem? (i := 973) (by decide +kernel))) (by decide +kernel)
    · exact xT_in (in_tbl (List.mem_of_getElem? (i := 975) (by decide +kernel))) (by decide +kernel)
    · exact xT_in (in_tbl (List.mem_of_getElem? (i := 977) (by decide +kernel))) (by decide +kernel)
    · exact xT_in (in_tbl (List.mem_of_getElem? (i := 979) (by decide +kernel))) (by decide +kernel)
    · exact xT_in (in_tbl (List.mem_of_getElem? (i := 981) (by decide +kernel))) (by decide +kernel)
    · exact xT_in (in_tbl (List.mem_of_getElem? (i := 983) (by decide +kernel))) (by decide +kernel)
    · exact xT_in (in_tbl (List.mem_of_getElem? (i := 985) (by decide +kernel))) (by decide +kernel)
    · exact xT_in (in_tbl (List.mem_of_getElem? (i := 987) (by decide +kernel))) (by decide +kernel)
    · exact xT_in (in_tbl (List.mem_of_getElem? (i := 989) (by decide +kernel))) (by decide +kernel)
    · exact xT_in (in_tbl (List.mem_of_getElem? (i := 991) (by decide +kernel))) (by decide +kernel)
    · exact xT_in (in_tbl (List.mem_of_getElem? (i := 993) (by decide +kernel))) (by decide +kernel)
    · exact xT_in (in_tbl (List.mem_of_getElem? (i := 995) (by decide +kernel))) (by decide +kernel)
    · exact xT_in (in_tbl (List.mem_of_getElem? (i := 997) (by decide +kernel))) (by decide +kernel)
    · exact xT_in (in_tbl (List.mem_of_getElem? (i := 999) (by decide +kernel))) (by decide +kernel)
    · exact xT_in (in_tbl (List.mem_of_getElem? (i := 1001) (by decide +kernel))) (by decide +kernel)
    · exact xT_in (in_tbl (List.mem_of_getElem? (i := 1003) (by decide +kernel))) (by decide +kernel)
  obtain ⟨k, hk, rfl⟩ := List.mem_map.mp hw
  exact h k (List.mem_range.mp hk)
theorem sh_0 : xSH 0 = (6, 11) := by decide +kernel
theorem sh_1 : xSH 1 = (5, 9) := by decide +kernel
theorem sh_2 : xSH 2 = (8, 31) := by decide +kernel
theorem sh_3 : xSH 3 = (8, 31) := by decide +kernel
theorem sh_4 : xSH 4 = (9, 10) := by decide +kernel
theorem sh_5 : xSH 5 = (8, 10) := by decide +kernel
theorem sh_6 : xSH 6 = (4, 8) := by decide +kernel
theorem sh_7 : xSH 7 = (4, 8) := by decide +kernel
theorem sh_8 : xSH 8 = (4, 8) := by decide +kernel
theorem sh_9 : xSH 9 = (4, 8) := by decide +kernel
theorem sh_10 : xSH 10 = (4, 8) := by decide +kernel
theorem sh_11 : xSH 11 = (4, 8) := by decide +kernel
theorem sh_12 : xSH 12 = (4, 8) := by decide +kernel
theorem sh_13 : xSH 13 = (4, 8) := by decide +kernel
theorem sh_14 : xSH 14 = (4, 8) := by decide +kernel
theorem sh_15 : xSH 15 = (4, 8) := by decide +kernel
theorem sh_16 : xSH 16 = (5, 9) := by decide +kernel
theorem sh_17 : xSH 17 = (8, 31) := by decide +kernel
theorem sh_18 : xSH 18 = (8, 31) := by decide +kernel
theorem sh_19 : xSH 19 = (9, 10) := by decide +kernel
theorem sh_20 : xSH 20 = (8, 10) := by decide +kernel
theorem sh_21 : xSH 21 = (4, 8) := by decide +kernel
theorem sh_22 : xSH 22 = (4, 8) := by decide +kernel
theorem sh_23 : xSH 23 = (4, 8) := by decide +kernel
theorem sh_24 : xSH 24 = (4, 8) := by decide +kernel
theorem sh_25 : xSH 25 = (4, 8) := by decide +kernel
theorem sh_26 : xSH 26 = (4, 8) := by decide +kernel
theorem sh_27 : xSH 27 = (4, 8) := by decide +kernel
theorem sh_28 : xSH 28 = (4, 8) := by decide +kernel
theorem sh_29 : xSH 29 = (4, 8) := by decide +kernel
theorem sh_30 : xSH 30 = (4, 8) := by decide +kernel
theorem sh_31 : xSH 31 = (5, 9) := by decide +kernel
theorem sh_32 : xSH 32 = (8, 31) := by decide +kernel
theorem sh_33 : xSH 33 = (8, 31) := by decide +kernel
theorem sh_34 : xSH 34 = (9, 10) := by decide +kernel
theorem sh_35 : xSH 35 = (8, 10) := by decide +kernel
theorem sh_36 : xSH 36 = (4, 8) := by decide +kernel
theorem sh_37 : xSH 37 = (4, 8) := by decide +kernel
theorem sh_38 : xSH 38 = (4, 8) := by decide +kernel
theorem sh_39 : xSH 39 = (4, 8) := by decide +kernel
theorem sh_40 : xSH 40 = (4, 8) := by decide +kernel
theorem sh_41 : xSH 41 = (4, 8) := by decide +kernel
theorem sh_42 : xSH 42 = (4, 8) := by decide +kernel
theorem sh_43 : xSH 43 = (4, 8) := by decide +kernel
theorem sh_44 : xSH 44 = (4, 8) := by decide +kernel
theorem sh_45 : xSH 45 = (4, 8) := by decide +kernel
theorem sh_46 : xSH 46 = (5, 9) := by decide +kernel
theorem sh_47 : xSH 47 = (8, 31) := by decide +kernel
theorem sh_48 : xSH 48 = (8, 31) := by decide +kernel
theorem sh_49 : xSH 49 = (9, 10) := by decide +kernel
theorem sh_50 : xSH 50 = (8, 10) := by decide +kernel
theorem sh_51 : xSH 51 = (4, 8) := by decide +kernel
theorem sh_52 : xSH 52 = (4, 8) := by decide +kernel
theorem sh_53 : xSH 53 = (4, 8) := by decide +kernel
theorem sh_54 : xSH 54 = (4, 8) := by decide +kernel
theorem sh_55 : xSH 55 = (4, 8) := by decide +kernel
theorem sh_56 : xSH 56 = (4, 8) := by decide +kernel
theorem sh_57 : xSH 57 = (4, 8) := by decide +kernel
theorem sh_58 : xSH 58 = (4, 8) := by decide +kernel
theorem sh_59 : xSH 59 = (4, 8) := by decide +kernel
theorem sh_60 : xSH 60 = (4, 8) := by decide +kernel
theorem sh_61 : xSH 61 = (2, 4) := by decide +kernel
theorem sh_62 : xSH 62 = (4, 8) := by decide +kernel
theorem sh_63 : xSH 63 = (0, 1) := by decide +kernel
theorem sh_64 : xSH 64 = (8, 1024) := by decide +kernel
theorem sh_65 : xSH 65 = (8, 10) := by decide +kernel
theorem sh_66 : xSH 66 = (1, 11) := by decide +kernel
theorem sh_67 : xSH 67 = (8, 120) := by decide +kernel
theorem sh_68 : xSH 68 = (8, 121) := by decide +kernel
theorem sh_69 : xSH 69 = (8, 121) := by decide +kernel
theorem sh_70 : xSH 70 = (8, 121) := by decide +kernel
theorem sh_71 : xSH 71 = (8, 121) := by decide +kernel
theorem sh_72 : xSH 72 = (10, 4) := by decide +kernel
theorem sh_73 : xSH 73 = (8, 7) := by decide +kernel
theorem sh_74 : xSH 74 = (3, 3) := by decide +kernel
theorem sh_75 : xSH 75 = (8, 40) := by decide +kernel
theorem sh_76 : xSH 76 = (3, 3) := by decide +kernel
theorem sh_77 : xSH 77 = (8, 40) := by decide +kernel
theorem sh_78 : xSH 78 = (3, 3) := by decide +kernel
theorem sh_79 : xSH 79 = (8, 40) := by decide +kernel
theorem sh_80 : xSH 80 = (3, 3) := by decide +kernel
theorem sh_81 : xSH 81 = (8, 40) := by decide +kernel
theorem sh_82 : xSH 82 = (7, 27) := by decide +kernel
theorem sh_83 : xSH 83 = (8, 167) := by decide +kernel
theorem sh_84 : xSH 84 = (8, 167) := by decide +kernel
theorem sh_85 : xSH 85 = (8, 167) := by decide +kernel
theorem sh_86 : xSH 86 = (8, 7) := by decide +kernel
theorem sh_87 : xSH 87 = (8, 1024) := by decide +kernel
theorem sh_88 : xSH 88 = (8, 10) := by decide +kernel
theorem sh_89 : xSH 89 = (8, 120) := by decide +kernel
theorem sh_90 : xSH 90 = (8, 4) := by decide +kernel
theorem sh_91 : xSH 91 = (8, 4) := by decide +kernel
theorem sh_92 : xSH 92 = (8, 160) := by decide +kernel
theorem sh_93 : xSH 93 = (8, 40) := by decide +kernel
def xTo (a : Nat) : Prop := a = 1 ∨ a = 16 ∨ a = 31 ∨ a = 46
def xSs (a : Nat) : Prop := a = 74 ∨ a = 76 ∨ a = 78 ∨ a = 80
theorem xTo_c1 : xTo 1 := Or.inl rfl
theorem xTo_c16 : xTo 16 := Or.inr (Or.inl rfl)
theorem xTo_c31 : xTo 31 := Or.inr (Or.inr (Or.inl rfl))
theorem xTo_c46 : xTo 46 := Or.inr (Or.inr (Or.inr rfl))
theorem xTo_o {a : Nat} (h : xTo a) : xSH a = (5, 9) := by rcases h with rfl | rfl | rfl | rfl <;> decide +kernel
theorem xTo_1 {a : Nat} (h : xTo a) : xSH (a + 1) = (8, 31) := by rcases h with rfl | rfl | rfl | rfl <;> decide +kernel
theorem xTo_2 {a : Nat} (h : xTo a) : xSH (a + 2) = (8, 31) := by rcases h with rfl | rfl | rfl | rfl <;> decide +kernel
theorem xTo_3 {a : Nat} (h : xTo a) : xSH (a + 3) = (9, 10) := by rcases h with rfl | rfl | rfl | rfl <;> decide +kernel
theorem xTo_4 {a : Nat} (h : xTo a) : xSH (a + 4) = (8, 10) := by rcases h with rfl | rfl | rfl | rfl <;> decide +kernel
theorem xTh0 : ∀ i, i < 10 → xSH (1 + 5 + i) = (4, 8) ∧ xSH (16 + 5 + i) = (4, 8) ∧ xSH (31 + 5 + i) = (4, 8) ∧ xSH (46 + 5 + i) = (4, 8) := by decide +kernel
theorem inb_lt {i : Int32} {n : Nat} (h : inb i n = true) : ix i < n := by
  simp only [inb, Bool.and_eq_true, decide_eq_true_eq] at h
  exact h.2
theorem xTh {a : Nat} (h : xTo a) {i : Int32} (hi : inb i 10 = true) : xSH (a + 5 + ix i) = (4, 8) := by
  have := xTh0 (ix i) (inb_lt hi)
  rcases h with rfl | rfl | rfl | rfl
  · exact this.1
  · exact this.2.1
  · exact this.2.2.1
  · exact this.2.2.2
theorem xShe {i : Int32} (hi : inb i 4 = true) : xSs (74 + 2 * ix i) := by
  have := inb_lt hi
  unfold xSs
  omega
theorem xSs_o {a : Nat} (h : xSs a) : xSH a = (3, 3) := by rcases h with rfl | rfl | rfl | rfl <;> decide +kernel
theorem xSs_1 {a : Nat} (h : xSs a) : xSH (a + 1) = (8, 40) := by rcases h with rfl | rfl | rfl | rfl <;> decide +kernel
theorem x_out {x : Int32} {lo hi : Int} (h : ∀ k : Int, lo ≤ k → k ≤ hi → ¬ x = Int32.ofInt k) : x.toInt < lo ∨ hi < x.toInt := by
  rcases Int.lt_or_le x.toInt lo with h1 | h1
  · exact Or.inl h1
  · rcases Int.lt_or_le hi x.toInt with h2 | h2
    · exact Or.inr h2
    · exact absurd (Int32.ofInt_toInt x).symm (h x.toInt h1 h2)
theorem isb_v {x : Int32} (h : isb x = true) : x = 0 ∨ x = 1 := by
  simpa [isb] using h
theorem isb_n {x : Int32} (h : isb x = true) : narrow .boolean (.int x) = .int x := by
  rcases isb_v h with rfl | rfl <;> decide
theorem isb_f {x : Int32} (h : isb x = true) : fits .boolean (.int x) = true := by
  rcases isb_v h with rfl | rfl <;> decide
/-- the fuel of every loop -/
def xF : Nat := 5000
section XW
variable {g : GX} {lev nL : Nat} {own : String} {cc : ByteArray} {ret : Option FieldType} {ρ : Type} {enc : ρ → Option Value × IM} {pc : Nat} {lv : List (Nat × Value)} {st : List Value} {im : IM} {o : Option ρ}
theorem x_isb {x : Int32} (k : isb x = true → X g (lev, nL, own, cc, ret) enc pc lv (.int x :: st) im o) : X g (lev, nL, own, cc, ret) enc pc lv (.int x :: st) im (if isb x = true then o else none) := by
  intro r hr
  obtain ⟨hi, hr⟩ := x_grd hr
  exact k hi r hr
theorem x_bp {p : Int32 × IM} {k : Int32 × IM → Option ρ} (h : ∀ r, X g (lev, nL, own, cc, ret) enc pc lv (.int r.1 :: st) r.2 (k r)) : X g (lev, nL, own, cc, ret) enc pc lv (.int p.1 :: st) p.2 (bnd p k) := h p
theorem x_ialdc {a n j : Nat} {i : Int32} (hs : xSH a = (8, n)) (hi : inb i n = true) (hj : ix i = j) (d : decode cc pc = .ok (.iaload, 1)) (k : X g (lev, nL, own, cc, ret) enc (pc + 1) lv (.int (im a j) :: st) im o) : X g (lev, nL, own, cc, ret) enc pc lv (.int i :: .ref (g.1 a) :: st) im o := by
  have h := x_iald (n := n) hs d (by rw [hj]; exact k)
  rw [if_pos hi] at h
  exact h
theorem x_iastc {a n j : Nat} {i x : Int32} (hs : xSH a = (8, n)) (hi : inb i n = true) (hj : ix i = j) (d : decode cc pc = .ok (.iastore, 1)) (k : X g (lev, nL, own, cc, ret) enc (pc + 1) lv st (up im a j x) o) : X g (lev, nL, own, cc, ret) enc pc lv (.int x :: .int i :: .ref (g.1 a) :: st) im o := by
  have h := x_iast (n := n) hs d (by rw [hj]; exact k)
  rw [if_pos hi] at h
  exact h
theorem x_lit_f {c : Prop} [Decidable c] (h : ¬ c) (k : X g (lev, nL, own, cc, ret) enc pc lv st im (if c then none else o)) : X g (lev, nL, own, cc, ret) enc pc lv st im o := by
  rw [if_neg h] at k; exact k
theorem x_lit_t {c : Prop} [Decidable c] (h : c) (k : X g (lev, nL, own, cc, ret) enc pc lv st im (if c then o else none)) : X g (lev, nL, own, cc, ret) enc pc lv st im o := by
  rw [if_pos h] at k; exact k
end XW

theorem fl_J0_38 : Cond.fieldLink RJ0 38 "java/lang/String" "COMPACT_STRINGS" "Z" ∈ xT := xT_in (in_tbl (List.mem_of_getElem? (i := 736) (by decide +kernel))) (by decide +kernel)
theorem fl_J0_15 : Cond.fieldLink RJ0 15 "java/lang/String" "coder" "B" ∈ xT := xT_in (in_tbl (List.mem_of_getElem? (i := 1479) (by decide +kernel))) (by decide +kernel)
theorem fl_J0_9 : Cond.fieldLink RJ0 9 "java/lang/String" "value" "[B" ∈ xT := xT_in (in_tbl (List.mem_of_getElem? (i := 1478) (by decide +kernel))) (by decide +kernel)
theorem im_J0_coder_7d493 : Cond.instanceMethod yJ0_coder_7d493 ∈ xT := xT_in (in_tbl (List.mem_of_getElem? (i := 733) (by decide +kernel))) (by decide +kernel)
theorem sl_J0_coder_7d493 : Cond.selects RJ0 yJ0_coder_7d493 yJ0_coder_7d493 ∈ xT := xT_in (in_tbl (List.mem_of_getElem? (i := 734) (by decide +kernel))) (by decide +kernel)
theorem ini_java_lang_String : Cond.initialized RJ0 ∈ xT := xT_in (in_tbl (List.mem_of_getElem? (i := 12) (by decide +kernel))) (by decide +kernel)
theorem lk_J0_335 : xLinkV RJ0 335 yJ0_coder_7d493 := ⟨xT_in (in_tbl (List.mem_of_getElem? (i := 732) (by decide +kernel))) (by decide +kernel), im_J0_coder_7d493, sl_J0_coder_7d493, ini_java_lang_String⟩
theorem cd_J0_coder_7d493 : Cond.code yJ0_coder_7d493 cJ0_coder_7d493 1 (some .byte) ∈ xT := xT_in (in_tbl (List.mem_of_getElem? (i := 735) (by decide +kernel))) (by decide +kernel)
theorem xd_J0_coder_7d493 : xD yJ0_coder_7d493 0 := by decide +kernel
theorem fl_J0_1053 : Cond.fieldLink RJ0 1053 "jdk/internal/util/Preconditions" "SIOOBE_FORMATTER" "Ljava/util/function/BiFunction;" ∈ xT := xT_in (in_tbl (List.mem_of_getElem? (i := 752) (by decide +kernel))) (by decide +kernel)
theorem st_J3_checkIndex_8e157 : Cond.static yJ3_checkIndex_8e157 ∈ xT := xT_in (in_tbl (List.mem_of_getElem? (i := 755) (by decide +kernel))) (by decide +kernel)
theorem ini_jdk_internal_util_Preconditions : Cond.initialized RJ3 ∈ xT := xT_in (in_tbl (List.mem_of_getElem? (i := 14) (by decide +kernel))) (by decide +kernel)
theorem lk_J0_1059 : xLinkS RJ0 1059 yJ3_checkIndex_8e157 := ⟨Or.inl (xT_in (in_tbl (List.mem_of_getElem? (i := 754) (by decide +kernel))) (by decide +kernel)), st_J3_checkIndex_8e157, ini_jdk_internal_util_Preconditions⟩
theorem cd_J3_checkIndex_8e157 : Cond.code yJ3_checkIndex_8e157 cJ3_checkIndex_8e157 3 (some .int) ∈ xT := xT_in (in_tbl (List.mem_of_getElem? (i := 756) (by decide +kernel))) (by decide +kernel)
theorem xd_J3_checkIndex_8e157 : xD yJ3_checkIndex_8e157 3 := by decide +kernel
theorem st_J0_checkIndex_df160 : Cond.static yJ0_checkIndex_df160 ∈ xT := xT_in (in_tbl (List.mem_of_getElem? (i := 750) (by decide +kernel))) (by decide +kernel)
theorem lk_J1_9 : xLinkS RJ1 9 yJ0_checkIndex_df160 := ⟨Or.inl (xT_in (in_tbl (List.mem_of_getElem? (i := 749) (by decide +kernel))) (by decide +kernel)), st_J0_checkIndex_df160, ini_java_lang_String⟩
theorem cd_J0_checkIndex_df160 : Cond.code yJ0_checkIndex_df160 cJ0_checkIndex_df160 2 none ∈ xT := xT_in (in_tbl (List.mem_of_getElem? (i := 751) (by decide +kernel))) (by decide +kernel)
theorem xd_J0_checkIndex_df160 : xD yJ0_checkIndex_df160 2 := by decide +kernel
theorem im_J0_isLatin1_aae02 : Cond.instanceMethod yJ0_isLatin1_aae02 ∈ xT := xT_in (in_tbl (List.mem_of_getElem? (i := 743) (by decide +kernel))) (by decide +kernel)
theorem sl_J0_isLatin1_aae02 : Cond.selects RJ0 yJ0_isLatin1_aae02 yJ0_isLatin1_aae02 ∈ xT := xT_in (in_tbl (List.mem_of_getElem? (i := 744) (by decide +kernel))) (by decide +kernel)
theorem lk_J0_492 : xLinkV RJ0 492 yJ0_isLatin1_aae02 := ⟨xT_in (in_tbl (List.mem_of_getElem? (i := 742) (by decide +kernel))) (by decide +kernel), im_J0_isLatin1_aae02, sl_J0_isLatin1_aae02, ini_java_lang_String⟩
theorem cd_J0_isLatin1_aae02 : Cond.code yJ0_isLatin1_aae02 cJ0_isLatin1_aae02 1 (some .boolean) ∈ xT := xT_in (in_tbl (List.mem_of_getElem? (i := 745) (by decide +kernel))) (by decide +kernel)
theorem xd_J0_isLatin1_aae02 : xD yJ0_isLatin1_aae02 0 := by decide +kernel
theorem st_J1_charAt_3b067 : Cond.static yJ1_charAt_3b067 ∈ xT := xT_in (in_tbl (List.mem_of_getElem? (i := 747) (by decide +kernel))) (by decide +kernel)
theorem ini_java_lang_StringLatin1 : Cond.initialized RJ1 ∈ xT := xT_in (in_tbl (List.mem_of_getElem? (i := 13) (by decide +kernel))) (by decide +kernel)
theorem lk_J0_495 : xLinkS RJ0 495 yJ1_charAt_3b067 := ⟨Or.inl (xT_in (in_tbl (List.mem_of_getElem? (i := 746) (by decide +kernel))) (by decide +kernel)), st_J1_charAt_3b067, ini_java_lang_StringLatin1⟩
theorem cd_J1_charAt_3b067 : Cond.code yJ1_charAt_3b067 cJ1_charAt_3b067 2 (some .char) ∈ xT := xT_in (in_tbl (List.mem_of_getElem? (i := 748) (by decide +kernel))) (by decide +kernel)
theorem xd_J1_charAt_3b067 : xD yJ1_charAt_3b067 2 := by decide +kernel
theorem co_J6_265 : Cond.constant RJ6 265 (1431655765) ∈ xT := xT_in (in_tbl (List.mem_of_getElem? (i := 391) (by decide +kernel))) (by decide +kernel)
theorem co_J6_266 : Cond.constant RJ6 266 (858993459) ∈ xT := xT_in (in_tbl (List.mem_of_getElem? (i := 392) (by decide +kernel))) (by decide +kernel)
theorem co_J6_267 : Cond.constant RJ6 267 (252645135) ∈ xT := xT_in (in_tbl (List.mem_of_getElem? (i := 393) (by decide +kernel))) (by decide +kernel)
theorem st_X6_within : Cond.static yX6_within ∈ xT := xT_in (in_tbl (List.mem_of_getElem? (i := 266) (by decide +kernel))) (by decide +kernel)
theorem ini_RollTown : Cond.initialized RX6 ∈ xT := xT_in (in_tbl (List.mem_of_getElem? (i := 1) (by decide +kernel))) (by decide +kernel)
theorem lk_X6_79 : xLinkS RX6 79 yX6_within := ⟨Or.inl (xT_in (in_tbl (List.mem_of_getElem? (i := 265) (by decide +kernel))) (by decide +kernel)), st_X6_within, ini_RollTown⟩
theorem cd_X6_within : Cond.code yX6_within cX6_within 3 (some .boolean) ∈ xT := xT_in (in_tbl (List.mem_of_getElem? (i := 267) (by decide +kernel))) (by decide +kernel)
theorem xd_X6_within : xD yX6_within 3 := by decide +kernel
theorem fl_X4_9 : Cond.fieldLink RX4 9 "RollTown$Thing" "kind" "I" ∈ xT := xT_in (in_tbl (List.mem_of_getElem? (i := 37) (by decide +kernel))) (by decide +kernel)
theorem fl_X4_15 : Cond.fieldLink RX4 15 "RollTown$Thing" "weight" "I" ∈ xT := xT_in (in_tbl (List.mem_of_getElem? (i := 39) (by decide +kernel))) (by decide +kernel)
theorem fl_X4_18 : Cond.fieldLink RX4 18 "RollTown$Thing" "rolls" "I" ∈ xT := xT_in (in_tbl (List.mem_of_getElem? (i := 44) (by decide +kernel))) (by decide +kernel)
theorem fl_X4_21 : Cond.fieldLink RX4 21 "RollTown$Thing" "lean" "I" ∈ xT := xT_in (in_tbl (List.mem_of_getElem? (i := 47) (by decide +kernel))) (by decide +kernel)
theorem fl_X4_24 : Cond.fieldLink RX4 24 "RollTown$Thing" "cell" "I" ∈ xT := xT_in (in_tbl (List.mem_of_getElem? (i := 50) (by decide +kernel))) (by decide +kernel)
theorem fl_X4_27 : Cond.fieldLink RX4 27 "RollTown$Thing" "speed" "I" ∈ xT := xT_in (in_tbl (List.mem_of_getElem? (i := 54) (by decide +kernel))) (by decide +kernel)
theorem fl_X4_30 : Cond.fieldLink RX4 30 "RollTown$Thing" "state" "I" ∈ xT := xT_in (in_tbl (List.mem_of_getElem? (i := 58) (by decide +kernel))) (by decide +kernel)
theorem fl_X4_33 : Cond.fieldLink RX4 33 "RollTown$Thing" "damage" "I" ∈ xT := xT_in (in_tbl (List.mem_of_getElem? (i := 62) (by decide +kernel))) (by decide +kernel)
theorem st_Mmin : Cond.static Lib.Math.min.name ∈ xT := xT_in (in_tbl (List.mem_of_getElem? (i := 350) (by decide +kernel))) (by decide +kernel)
theorem ini_java_lang_Math : Cond.initialized RJ9 ∈ xT := xT_in (in_tbl (List.mem_of_getElem? (i := 9) (by decide +kernel))) (by decide +kernel)
theorem cd_Mmin : Cond.code Lib.Math.min.name Lib.Math.min.code 2 (some .int) ∈ xT := xT_in (in_tbl (List.mem_of_getElem? (i := 351) (by decide +kernel))) (by decide +kernel)
theorem lk_X4_36 : xLinkM RX4 36 Lib.Math.min.name Lib.Math.min.code 2 := ⟨xT_in (in_tbl (List.mem_of_getElem? (i := 349) (by decide +kernel))) (by decide +kernel), st_Mmin, ini_java_lang_Math, cd_Mmin⟩
theorem lk_X4_42 : xLinkS RX4 42 yX6_within := ⟨Or.inr ⟨"RollTown", xT_in (in_tbl (List.mem_of_getElem? (i := 356) (by decide +kernel))) (by decide +kernel)⟩, st_X6_within, ini_RollTown⟩
theorem fl_X4_46 : Cond.fieldLinkNest RX4 46 "RollTown" "PLAIN_DRAG" "[I" "RollTown" ∈ xT := xT_in (in_tbl (List.mem_of_getElem? (i := 357) (by decide +kernel))) (by decide +kernel)
theorem fl_X3_15 : Cond.fieldLink RX3 15 "RollTown$Sheet" "bits" "I" ∈ xT := xT_in (in_tbl (List.mem_of_getElem? (i := 213) (by decide +kernel))) (by decide +kernel)
theorem fl_X3_19 : Cond.fieldLink RX3 19 "RollTown$Sheet" "size" "I" ∈ xT := xT_in (in_tbl (List.mem_of_getElem? (i := 215) (by decide +kernel))) (by decide +kernel)
theorem fl_X3_9 : Cond.fieldLink RX3 9 "RollTown$Sheet" "numbers" "[I" ∈ xT := xT_in (in_tbl (List.mem_of_getElem? (i := 211) (by decide +kernel))) (by decide +kernel)
theorem fl_X4_50 : Cond.fieldLinkNest RX4 50 "RollTown" "KIND_ABOVE" "[I" "RollTown" ∈ xT := xT_in (in_tbl (List.mem_of_getElem? (i := 841) (by decide +kernel))) (by decide +kernel)
theorem fl_X5_27 : Cond.fieldLink RX5 27 "RollTown$Town" "size" "I" ∈ xT := xT_in (in_tbl (List.mem_of_getElem? (i := 95) (by decide +kernel))) (by decide +kernel)
theorem im_X5_isFull : Cond.instanceMethod yX5_isFull ∈ xT := xT_in (in_tbl (List.mem_of_getElem? (i := 306) (by decide +kernel))) (by decide +kernel)
theorem sl_X5_isFull : Cond.selects RX5 yX5_isFull yX5_isFull ∈ xT := xT_in (in_tbl (List.mem_of_getElem? (i := 307) (by decide +kernel))) (by decide +kernel)
theorem ini_RollTown_Town : Cond.initialized RX5 ∈ xT := xT_in (in_tbl (List.mem_of_getElem? (i := 2) (by decide +kernel))) (by decide +kernel)
theorem lk_X5_54 : xLinkV RX5 54 yX5_isFull := ⟨xT_in (in_tbl (List.mem_of_getElem? (i := 314) (by decide +kernel))) (by decide +kernel), im_X5_isFull, sl_X5_isFull, ini_RollTown_Town⟩
theorem cd_X5_isFull : Cond.code yX5_isFull cX5_isFull 1 (some .boolean) ∈ xT := xT_in (in_tbl (List.mem_of_getElem? (i := 308) (by decide +kernel))) (by decide +kernel)
theorem xd_X5_isFull : xD yX5_isFull 0 := by decide +kernel
theorem fl_X5_20 : Cond.fieldLink RX5 20 "RollTown$Town" "things" "[LRollTown$Thing;" ∈ xT := xT_in (in_tbl (List.mem_of_getElem? (i := 89) (by decide +kernel))) (by decide +kernel)
theorem im_X4_beginAs : Cond.instanceMethod yX4_beginAs ∈ xT := xT_in (in_tbl (List.mem_of_getElem? (i := 316) (by decide +kernel))) (by decide +kernel)
theorem sl_X4_beginAs : Cond.selects RX4 yX4_beginAs yX4_beginAs ∈ xT := xT_in (in_tbl (List.mem_of_getElem? (i := 317) (by decide +kernel))) (by decide +kernel)
theorem ini_RollTown_Thing : Cond.initialized RX4 ∈ xT := xT_in (in_tbl (List.mem_of_getElem? (i := 3) (by decide +kernel))) (by decide +kernel)
theorem lk_X5_58 : xLinkV RX5 58 yX4_beginAs := ⟨xT_in (in_tbl (List.mem_of_getElem? (i := 315) (by decide +kernel))) (by decide +kernel), im_X4_beginAs, sl_X4_beginAs, ini_RollTown_Thing⟩
theorem cd_X4_beginAs : Cond.code yX4_beginAs cX4_beginAs 3 none ∈ xT := xT_in (in_tbl (List.mem_of_getElem? (i := 318) (by decide +kernel))) (by decide +kernel)
theorem xd_X4_beginAs : xD yX4_beginAs 2 := by decide +kernel
theorem fl_X5_31 : Cond.fieldLink RX5 31 "RollTown$Town" "shutFirst" "I" ∈ xT := xT_in (in_tbl (List.mem_of_getElem? (i := 99) (by decide +kernel))) (by decide +kernel)
theorem fl_X5_34 : Cond.fieldLink RX5 34 "RollTown$Town" "shutLast" "I" ∈ xT := xT_in (in_tbl (List.mem_of_getElem? (i := 102) (by decide +kernel))) (by decide +kernel)
theorem fl_X5_87 : Cond.fieldLink RX5 87 "RollTown$Thing" "cell" "I" ∈ xT := xT_in (in_tbl (List.mem_of_getElem? (i := 53) (by decide +kernel))) (by decide +kernel)
theorem fl_X5_84 : Cond.fieldLink RX5 84 "RollTown$Thing" "speed" "I" ∈ xT := xT_in (in_tbl (List.mem_of_getElem? (i := 57) (by decide +kernel))) (by decide +kernel)
theorem fl_X5_15 : Cond.fieldLink RX5 15 "RollTown$Town" "grounds" "[I" ∈ xT := xT_in (in_tbl (List.mem_of_getElem? (i := 86) (by decide +kernel))) (by decide +kernel)
theorem im_X4_bendLimit : Cond.instanceMethod yX4_bendLimit ∈ xT := xT_in (in_tbl (List.mem_of_getElem? (i := 328) (by decide +kernel))) (by decide +kernel)
theorem sl_X4_bendLimit : Cond.selects RX4 yX4_bendLimit yX4_bendLimit ∈ xT := xT_in (in_tbl (List.mem_of_getElem? (i := 329) (by decide +kernel))) (by decide +kernel)
theorem lk_X5_116 : xLinkV RX5 116 yX4_bendLimit := ⟨xT_in (in_tbl (List.mem_of_getElem? (i := 422) (by decide +kernel))) (by decide +kernel), im_X4_bendLimit, sl_X4_bendLimit, ini_RollTown_Thing⟩
theorem cd_X4_bendLimit : Cond.code yX4_bendLimit cX4_bendLimit 1 (some .int) ∈ xT := xT_in (in_tbl (List.mem_of_getElem? (i := 330) (by decide +kernel))) (by decide +kernel)
theorem xd_X4_bendLimit : xD yX4_bendLimit 0 := by decide +kernel
theorem fl_X5_66 : Cond.fieldLink RX5 66 "RollTown$Thing" "state" "I" ∈ xT := xT_in (in_tbl (List.mem_of_getElem? (i := 60) (by decide +kernel))) (by decide +kernel)
theorem im_X4_stop : Cond.instanceMethod yX4_stop ∈ xT := xT_in (in_tbl (List.mem_of_getElem? (i := 377) (by decide +kernel))) (by decide +kernel)
theorem sl_X4_stop : Cond.selects RX4 yX4_stop yX4_stop ∈ xT := xT_in (in_tbl (List.mem_of_getElem? (i := 378) (by decide +kernel))) (by decide +kernel)
theorem lk_X5_113 : xLinkV RX5 113 yX4_stop := ⟨xT_in (in_tbl (List.mem_of_getElem? (i := 421) (by decide +kernel))) (by decide +kernel), im_X4_stop, sl_X4_stop, ini_RollTown_Thing⟩
theorem cd_X4_stop : Cond.code yX4_stop cX4_stop 1 none ∈ xT := xT_in (in_tbl (List.mem_of_getElem? (i := 379) (by decide +kernel))) (by decide +kernel)
theorem xd_X4_stop : xD yX4_stop 0 := by decide +kernel
theorem fl_X5_9 : Cond.fieldLink RX5 9 "RollTown$Town" "falls" "[I" ∈ xT := xT_in (in_tbl (List.mem_of_getElem? (i := 83) (by decide +kernel))) (by decide +kernel)
theorem im_X4_gainFrom : Cond.instanceMethod yX4_gainFrom ∈ xT := xT_in (in_tbl (List.mem_of_getElem? (i := 346) (by decide +kernel))) (by decide +kernel)
theorem sl_X4_gainFrom : Cond.selects RX4 yX4_gainFrom yX4_gainFrom ∈ xT := xT_in (in_tbl (List.mem_of_getElem? (i := 347) (by decide +kernel))) (by decide +kernel)
theorem lk_X5_90 : xLinkV RX5 90 yX4_gainFrom := ⟨xT_in (in_tbl (List.mem_of_getElem? (i := 410) (by decide +kernel))) (by decide +kernel), im_X4_gainFrom, sl_X4_gainFrom, ini_RollTown_Thing⟩
theorem cd_X4_gainFrom : Cond.code yX4_gainFrom cX4_gainFrom 3 (some .int) ∈ xT := xT_in (in_tbl (List.mem_of_getElem? (i := 348) (by decide +kernel))) (by decide +kernel)
theorem xd_X4_gainFrom : xD yX4_gainFrom 1 := by decide +kernel
theorem im_X4_dragOn : Cond.instanceMethod yX4_dragOn ∈ xT := xT_in (in_tbl (List.mem_of_getElem? (i := 353) (by decide +kernel))) (by decide +kernel)
theorem sl_X4_dragOn : Cond.selects RX4 yX4_dragOn yX4_dragOn ∈ xT := xT_in (in_tbl (List.mem_of_getElem? (i := 354) (by decide +kernel))) (by decide +kernel)
theorem lk_X5_93 : xLinkV RX5 93 yX4_dragOn := ⟨xT_in (in_tbl (List.mem_of_getElem? (i := 411) (by decide +kernel))) (by decide +kernel), im_X4_dragOn, sl_X4_dragOn, ini_RollTown_Thing⟩
theorem cd_X4_dragOn : Cond.code yX4_dragOn cX4_dragOn 3 (some .int) ∈ xT := xT_in (in_tbl (List.mem_of_getElem? (i := 355) (by decide +kernel))) (by decide +kernel)
theorem xd_X4_dragOn : xD yX4_dragOn 1 := by decide +kernel
theorem lk_X5_96 : xLinkM RX5 96 Lib.Math.min.name Lib.Math.min.code 2 := ⟨xT_in (in_tbl (List.mem_of_getElem? (i := 412) (by decide +kernel))) (by decide +kernel), st_Mmin, ini_java_lang_Math, cd_Mmin⟩
theorem st_Mmax : Cond.static Lib.Math.max.name ∈ xT := xT_in (in_tbl (List.mem_of_getElem? (i := 414) (by decide +kernel))) (by decide +kernel)
theorem cd_Mmax : Cond.code Lib.Math.max.name Lib.Math.max.code 2 (some .int) ∈ xT := xT_in (in_tbl (List.mem_of_getElem? (i := 415) (by decide +kernel))) (by decide +kernel)
theorem lk_X5_102 : xLinkM RX5 102 Lib.Math.max.name Lib.Math.max.code 2 := ⟨xT_in (in_tbl (List.mem_of_getElem? (i := 413) (by decide +kernel))) (by decide +kernel), st_Mmax, ini_java_lang_Math, cd_Mmax⟩
theorem im_X5_gatesAreShut : Cond.instanceMethod yX5_gatesAreShut ∈ xT := xT_in (in_tbl (List.mem_of_getElem? (i := 292) (by decide +kernel))) (by decide +kernel)
theorem sl_X5_gatesAreShut : Cond.selects RX5 yX5_gatesAreShut yX5_gatesAreShut ∈ xT := xT_in (in_tbl (List.mem_of_getElem? (i := 293) (by decide +kernel))) (by decide +kernel)
theorem lk_X5_105 : xLinkV RX5 105 yX5_gatesAreShut := ⟨xT_in (in_tbl (List.mem_of_getElem? (i := 416) (by decide +kernel))) (by decide +kernel), im_X5_gatesAreShut, sl_X5_gatesAreShut, ini_RollTown_Town⟩
theorem cd_X5_gatesAreShut : Cond.code yX5_gatesAreShut cX5_gatesAreShut 3 (some .boolean) ∈ xT := xT_in (in_tbl (List.mem_of_getElem? (i := 294) (by decide +kernel))) (by decide +kernel)
theorem xd_X5_gatesAreShut : xD yX5_gatesAreShut 1 := by decide +kernel
theorem im_X5_stepOn : Cond.instanceMethod yX5_stepOn ∈ xT := xT_in (in_tbl (List.mem_of_getElem? (i := 419) (by decide +kernel))) (by decide +kernel)
theorem sl_X5_stepOn : Cond.selects RX5 yX5_stepOn yX5_stepOn ∈ xT := xT_in (in_sel (List.mem_of_getElem? (i := 2) (by decide +kernel))) (by decide +kernel)
theorem lk_X5_109 : xLinkV RX5 109 yX5_stepOn := ⟨xT_in (in_tbl (List.mem_of_getElem? (i := 417) (by decide +kernel))) (by decide +kernel), im_X5_stepOn, sl_X5_stepOn, ini_RollTown_Town⟩
theorem cd_X5_stepOn : Cond.code yX5_stepOn cX5_stepOn 3 none ∈ xT := xT_in (in_tbl (List.mem_of_getElem? (i := 420) (by decide +kernel))) (by decide +kernel)
theorem xd_X5_stepOn : xD yX5_stepOn 2 := by decide +kernel
theorem st_arraycopy : Cond.static arraycopyName ∈ xT := xT_in (in_tbl (List.mem_of_getElem? (i := 458) (by decide +kernel))) (by decide +kernel)
theorem na_arraycopy : Cond.native arraycopyName ∈ xT := xT_in (in_tbl (List.mem_of_getElem? (i := 459) (by decide +kernel))) (by decide +kernel)
theorem ini_java_lang_System : Cond.initialized RJ10 ∈ xT := xT_in (in_tbl (List.mem_of_getElem? (i := 11) (by decide +kernel))) (by decide +kernel)
theorem lk_X5_44 : xLinkC RX5 44 := ⟨xT_in (in_tbl (List.mem_of_getElem? (i := 457) (by decide +kernel))) (by decide +kernel), na_arraycopy, st_arraycopy, ini_java_lang_System⟩
theorem fl_X5_24 : Cond.fieldLink RX5 24 "RollTown$Town" "spots" "[I" ∈ xT := xT_in (in_tbl (List.mem_of_getElem? (i := 93) (by decide +kernel))) (by decide +kernel)
theorem fl_X5_37 : Cond.fieldLink RX5 37 "RollTown$Town" "minute" "I" ∈ xT := xT_in (in_tbl (List.mem_of_getElem? (i := 105) (by decide +kernel))) (by decide +kernel)
theorem fl_X5_40 : Cond.fieldLink RX5 40 "RollTown$Town" "z" "I" ∈ xT := xT_in (in_tbl (List.mem_of_getElem? (i := 108) (by decide +kernel))) (by decide +kernel)
theorem im_X4_become : Cond.instanceMethod yX4_become ∈ xT := xT_in (in_tbl (List.mem_of_getElem? (i := 461) (by decide +kernel))) (by decide +kernel)
theorem sl_X4_become : Cond.selects RX4 yX4_become yX4_become ∈ xT := xT_in (in_tbl (List.mem_of_getElem? (i := 462) (by decide +kernel))) (by decide +kernel)
theorem lk_X5_50 : xLinkV RX5 50 yX4_become := ⟨xT_in (in_tbl (List.mem_of_getElem? (i := 460) (by decide +kernel))) (by decide +kernel), im_X4_become, sl_X4_become, ini_RollTown_Thing⟩
theorem cd_X4_become : Cond.code yX4_become cX4_become 2 none ∈ xT := xT_in (in_tbl (List.mem_of_getElem? (i := 463) (by decide +kernel))) (by decide +kernel)
theorem xd_X4_become : xD yX4_become 1 := by decide +kernel
theorem st_X6_has : Cond.static yX6_has ∈ xT := xT_in (in_tbl (List.mem_of_getElem? (i := 404) (by decide +kernel))) (by decide +kernel)
theorem lk_X5_62 : xLinkS RX5 62 yX6_has := ⟨Or.inr ⟨"RollTown", xT_in (in_tbl (List.mem_of_getElem? (i := 403) (by decide +kernel))) (by decide +kernel)⟩, st_X6_has, ini_RollTown⟩
theorem cd_X6_has : Cond.code yX6_has cX6_has 2 (some .boolean) ∈ xT := xT_in (in_tbl (List.mem_of_getElem? (i := 405) (by decide +kernel))) (by decide +kernel)
theorem xd_X6_has : xD yX6_has 2 := by decide +kernel
theorem im_X4_isStanding : Cond.instanceMethod yX4_isStanding ∈ xT := xT_in (in_tbl (List.mem_of_getElem? (i := 428) (by decide +kernel))) (by decide +kernel)
theorem sl_X4_isStanding : Cond.selects RX4 yX4_isStanding yX4_isStanding ∈ xT := xT_in (in_tbl (List.mem_of_getElem? (i := 429) (by decide +kernel))) (by decide +kernel)
theorem lk_X5_119 : xLinkV RX5 119 yX4_isStanding := ⟨xT_in (in_tbl (List.mem_of_getElem? (i := 427) (by decide +kernel))) (by decide +kernel), im_X4_isStanding, sl_X4_isStanding, ini_RollTown_Thing⟩
theorem cd_X4_isStanding : Cond.code yX4_isStanding cX4_isStanding 1 (some .boolean) ∈ xT := xT_in (in_tbl (List.mem_of_getElem? (i := 430) (by decide +kernel))) (by decide +kernel)
theorem xd_X4_isStanding : xD yX4_isStanding 0 := by decide +kernel
theorem fl_X5_134 : Cond.fieldLink RX5 134 "RollTown$Thing" "damage" "I" ∈ xT := xT_in (in_tbl (List.mem_of_getElem? (i := 64) (by decide +kernel))) (by decide +kernel)
theorem st_J6_bitCount_0f7a4 : Cond.static yJ6_bitCount_0f7a4 ∈ xT := xT_in (in_tbl (List.mem_of_getElem? (i := 389) (by decide +kernel))) (by decide +kernel)
theorem ini_java_lang_Integer : Cond.initialized RJ6 ∈ xT := xT_in (in_tbl (List.mem_of_getElem? (i := 10) (by decide +kernel))) (by decide +kernel)
theorem lk_X5_125 : xLinkS RX5 125 yJ6_bitCount_0f7a4 := ⟨Or.inl (xT_in (in_tbl (List.mem_of_getElem? (i := 435) (by decide +kernel))) (by decide +kernel)), st_J6_bitCount_0f7a4, ini_java_lang_Integer⟩
theorem cd_J6_bitCount_0f7a4 : Cond.code yJ6_bitCount_0f7a4 cJ6_bitCount_0f7a4 1 (some .int) ∈ xT := xT_in (in_tbl (List.mem_of_getElem? (i := 390) (by decide +kernel))) (by decide +kernel)
theorem xd_J6_bitCount_0f7a4 : xD yJ6_bitCount_0f7a4 1 := by decide +kernel
theorem im_X5_allOn : Cond.instanceMethod yX5_allOn ∈ xT := xT_in (in_tbl (List.mem_of_getElem? (i := 432) (by decide +kernel))) (by decide +kernel)
theorem sl_X5_allOn : Cond.selects RX5 yX5_allOn yX5_allOn ∈ xT := xT_in (in_tbl (List.mem_of_getElem? (i := 433) (by decide +kernel))) (by decide +kernel)
theorem lk_X5_122 : xLinkV RX5 122 yX5_allOn := ⟨xT_in (in_tbl (List.mem_of_getElem? (i := 431) (by decide +kernel))) (by decide +kernel), im_X5_allOn, sl_X5_allOn, ini_RollTown_Town⟩
theorem cd_X5_allOn : Cond.code yX5_allOn cX5_allOn 4 (some .int) ∈ xT := xT_in (in_tbl (List.mem_of_getElem? (i := 434) (by decide +kernel))) (by decide +kernel)
theorem xd_X5_allOn : xD yX5_allOn 1 := by decide +kernel
theorem im_X5_stopWithDamage : Cond.instanceMethod yX5_stopWithDamage ∈ xT := xT_in (in_tbl (List.mem_of_getElem? (i := 438) (by decide +kernel))) (by decide +kernel)
theorem sl_X5_stopWithDamage : Cond.selects RX5 yX5_stopWithDamage yX5_stopWithDamage ∈ xT := xT_in (in_sel (List.mem_of_getElem? (i := 4) (by decide +kernel))) (by decide +kernel)
theorem lk_X5_130 : xLinkV RX5 130 yX5_stopWithDamage := ⟨xT_in (in_tbl (List.mem_of_getElem? (i := 436) (by decide +kernel))) (by decide +kernel), im_X5_stopWithDamage, sl_X5_stopWithDamage, ini_RollTown_Town⟩
theorem cd_X5_stopWithDamage : Cond.code yX5_stopWithDamage cX5_stopWithDamage 3 none ∈ xT := xT_in (in_tbl (List.mem_of_getElem? (i := 439) (by decide +kernel))) (by decide +kernel)
theorem xd_X5_stopWithDamage : xD yX5_stopWithDamage 1 := by decide +kernel
theorem im_X5_allIn : Cond.instanceMethod yX5_allIn ∈ xT := xT_in (in_tbl (List.mem_of_getElem? (i := 385) (by decide +kernel))) (by decide +kernel)
theorem sl_X5_allIn : Cond.selects RX5 yX5_allIn yX5_allIn ∈ xT := xT_in (in_tbl (List.mem_of_getElem? (i := 386) (by decide +kernel))) (by decide +kernel)
theorem lk_X5_73 : xLinkV RX5 73 yX5_allIn := ⟨xT_in (in_tbl (List.mem_of_getElem? (i := 402) (by decide +kernel))) (by decide +kernel), im_X5_allIn, sl_X5_allIn, ini_RollTown_Town⟩
theorem cd_X5_allIn : Cond.code yX5_allIn cX5_allIn 4 (some .int) ∈ xT := xT_in (in_tbl (List.mem_of_getElem? (i := 387) (by decide +kernel))) (by decide +kernel)
theorem xd_X5_allIn : xD yX5_allIn 1 := by decide +kernel
theorem im_X5_stopThoseThatMeet : Cond.instanceMethod yX5_stopThoseThatMeet ∈ xT := xT_in (in_tbl (List.mem_of_getElem? (i := 425) (by decide +kernel))) (by decide +kernel)
theorem sl_X5_stopThoseThatMeet : Cond.selects RX5 yX5_stopThoseThatMeet yX5_stopThoseThatMeet ∈ xT := xT_in (in_sel (List.mem_of_getElem? (i := 3) (by decide +kernel))) (by decide +kernel)
theorem lk_X5_81 : xLinkV RX5 81 yX5_stopThoseThatMeet := ⟨xT_in (in_tbl (List.mem_of_getElem? (i := 423) (by decide +kernel))) (by decide +kernel), im_X5_stopThoseThatMeet, sl_X5_stopThoseThatMeet, ini_RollTown_Town⟩
theorem cd_X5_stopThoseThatMeet : Cond.code yX5_stopThoseThatMeet cX5_stopThoseThatMeet 6 (some .int) ∈ xT := xT_in (in_tbl (List.mem_of_getElem? (i := 426) (by decide +kernel))) (by decide +kernel)
theorem xd_X5_stopThoseThatMeet : xD yX5_stopThoseThatMeet 1 := by decide +kernel
theorem im_X5_rollOn : Cond.instanceMethod yX5_rollOn ∈ xT := xT_in (in_tbl (List.mem_of_getElem? (i := 407) (by decide +kernel))) (by decide +kernel)
theorem sl_X5_rollOn : Cond.selects RX5 yX5_rollOn yX5_rollOn ∈ xT := xT_in (in_tbl (List.mem_of_getElem? (i := 408) (by decide +kernel))) (by decide +kernel)
theorem lk_X5_77 : xLinkV RX5 77 yX5_rollOn := ⟨xT_in (in_tbl (List.mem_of_getElem? (i := 406) (by decide +kernel))) (by decide +kernel), im_X5_rollOn, sl_X5_rollOn, ini_RollTown_Town⟩
theorem cd_X5_rollOn : Cond.code yX5_rollOn cX5_rollOn 7 none ∈ xT := xT_in (in_tbl (List.mem_of_getElem? (i := 409) (by decide +kernel))) (by decide +kernel)
theorem xd_X5_rollOn : xD yX5_rollOn 2 := by decide +kernel
theorem im_X5_passMinute : Cond.instanceMethod yX5_passMinute ∈ xT := xT_in (in_tbl (List.mem_of_getElem? (i := 399) (by decide +kernel))) (by decide +kernel)
theorem sl_X5_passMinute : Cond.selects RX5 yX5_passMinute yX5_passMinute ∈ xT := xT_in (in_tbl (List.mem_of_getElem? (i := 400) (by decide +kernel))) (by decide +kernel)
theorem lk_X5_69 : xLinkV RX5 69 yX5_passMinute := ⟨xT_in (in_tbl (List.mem_of_getElem? (i := 398) (by decide +kernel))) (by decide +kernel), im_X5_passMinute, sl_X5_passMinute, ini_RollTown_Town⟩
theorem cd_X5_passMinute : Cond.code yX5_passMinute cX5_passMinute 4 (some .int) ∈ xT := xT_in (in_tbl (List.mem_of_getElem? (i := 401) (by decide +kernel))) (by decide +kernel)
theorem xd_X5_passMinute : xD yX5_passMinute 0 := by decide +kernel
theorem fl_X5_137 : Cond.fieldLink RX5 137 "RollTown$Thing" "weight" "I" ∈ xT := xT_in (in_tbl (List.mem_of_getElem? (i := 43) (by decide +kernel))) (by decide +kernel)
theorem co_X5_140 : Cond.constant RX5 140 (1103515245) ∈ xT := xT_in (in_tbl (List.mem_of_getElem? (i := 661) (by decide +kernel))) (by decide +kernel)
theorem fl_X0_11 : Cond.fieldLink RX0 11 "RollTown$Packing" "row" "[I" ∈ xT := xT_in (in_tbl (List.mem_of_getElem? (i := 159) (by decide +kernel))) (by decide +kernel)
theorem ix_0 : ix (0 : Int32) = 0 := by decide +kernel
theorem fl_X0_23 : Cond.fieldLink RX0 23 "RollTown$Town" "size" "I" ∈ xT := xT_in (in_tbl (List.mem_of_getElem? (i := 96) (by decide +kernel))) (by decide +kernel)
theorem fl_X0_29 : Cond.fieldLink RX0 29 "RollTown$Town" "things" "[LRollTown$Thing;" ∈ xT := xT_in (in_tbl (List.mem_of_getElem? (i := 90) (by decide +kernel))) (by decide +kernel)
theorem fl_X0_33 : Cond.fieldLink RX0 33 "RollTown$Thing" "weight" "I" ∈ xT := xT_in (in_tbl (List.mem_of_getElem? (i := 40) (by decide +kernel))) (by decide +kernel)
theorem st_Mabs : Cond.static Lib.Math.abs.name ∈ xT := xT_in (in_tbl (List.mem_of_getElem? (i := 596) (by decide +kernel))) (by decide +kernel)
theorem cd_Mabs : Cond.code Lib.Math.abs.name Lib.Math.abs.code 1 (some .int) ∈ xT := xT_in (in_tbl (List.mem_of_getElem? (i := 597) (by decide +kernel))) (by decide +kernel)
theorem lk_X0_38 : xLinkM RX0 38 Lib.Math.abs.name Lib.Math.abs.code 1 := ⟨xT_in (in_tbl (List.mem_of_getElem? (i := 595) (by decide +kernel))) (by decide +kernel), st_Mabs, ini_java_lang_Math, cd_Mabs⟩
theorem im_X0_weighAllSets : Cond.instanceMethod yX0_weighAllSets ∈ xT := xT_in (in_tbl (List.mem_of_getElem? (i := 589) (by decide +kernel))) (by decide +kernel)
theorem sl_X0_weighAllSets : Cond.selects RX0 yX0_weighAllSets yX0_weighAllSets ∈ xT := xT_in (in_sel (List.mem_of_getElem? (i := 10) (by decide +kernel))) (by decide +kernel)
theorem ini_RollTown_Packing : Cond.initialized RX0 ∈ xT := xT_in (in_tbl (List.mem_of_getElem? (i := 5) (by decide +kernel))) (by decide +kernel)
theorem lk_X0_15 : xLinkV RX0 15 yX0_weighAllSets := ⟨xT_in (in_tbl (List.mem_of_getElem? (i := 587) (by decide +kernel))) (by decide +kernel), im_X0_weighAllSets, sl_X0_weighAllSets, ini_RollTown_Packing⟩
theorem cd_X0_weighAllSets : Cond.code yX0_weighAllSets cX0_weighAllSets 5 none ∈ xT := xT_in (in_tbl (List.mem_of_getElem? (i := 590) (by decide +kernel))) (by decide +kernel)
theorem xd_X0_weighAllSets : xD yX0_weighAllSets 1 := by decide +kernel
theorem im_X0_difference : Cond.instanceMethod yX0_difference ∈ xT := xT_in (in_tbl (List.mem_of_getElem? (i := 592) (by decide +kernel))) (by decide +kernel)
theorem sl_X0_difference : Cond.selects RX0 yX0_difference yX0_difference ∈ xT := xT_in (in_tbl (List.mem_of_getElem? (i := 593) (by decide +kernel))) (by decide +kernel)
theorem lk_X0_19 : xLinkV RX0 19 yX0_difference := ⟨xT_in (in_tbl (List.mem_of_getElem? (i := 591) (by decide +kernel))) (by decide +kernel), im_X0_difference, sl_X0_difference, ini_RollTown_Packing⟩
theorem cd_X0_difference : Cond.code yX0_difference cX0_difference 3 (some .int) ∈ xT := xT_in (in_tbl (List.mem_of_getElem? (i := 594) (by decide +kernel))) (by decide +kernel)
theorem xd_X0_difference : xD yX0_difference 2 := by decide +kernel
theorem lk_X0_48 : xLinkS RX0 48 yX6_has := ⟨Or.inr ⟨"RollTown", xT_in (in_tbl (List.mem_of_getElem? (i := 619) (by decide +kernel))) (by decide +kernel)⟩, st_X6_has, ini_RollTown⟩
theorem lk_X0_52 : xLinkM RX0 52 Lib.Math.min.name Lib.Math.min.code 2 := ⟨xT_in (in_tbl (List.mem_of_getElem? (i := 620) (by decide +kernel))) (by decide +kernel), st_Mmin, ini_java_lang_Math, cd_Mmin⟩
theorem im_X0_fewestFor : Cond.instanceMethod yX0_fewestFor ∈ xT := xT_in (in_tbl (List.mem_of_getElem? (i := 617) (by decide +kernel))) (by decide +kernel)
theorem sl_X0_fewestFor : Cond.selects RX0 yX0_fewestFor yX0_fewestFor ∈ xT := xT_in (in_sel (List.mem_of_getElem? (i := 11) (by decide +kernel))) (by decide +kernel)
theorem lk_X0_44 : xLinkV RX0 44 yX0_fewestFor := ⟨xT_in (in_tbl (List.mem_of_getElem? (i := 615) (by decide +kernel))) (by decide +kernel), im_X0_fewestFor, sl_X0_fewestFor, ini_RollTown_Packing⟩
theorem cd_X0_fewestFor : Cond.code yX0_fewestFor cX0_fewestFor 10 (some .int) ∈ xT := xT_in (in_tbl (List.mem_of_getElem? (i := 618) (by decide +kernel))) (by decide +kernel)
theorem xd_X0_fewestFor : xD yX0_fewestFor 3 := by decide +kernel
theorem fl_X2_12 : Cond.fieldLink RX2 12 "RollTown$Roll" "rider" "LRollTown$Thing;" ∈ xT := xT_in (in_tbl (List.mem_of_getElem? (i := 137) (by decide +kernel))) (by decide +kernel)
theorem lk_X2_32 : xLinkV RX2 32 yX4_become := ⟨xT_in (in_tbl (List.mem_of_getElem? (i := 502) (by decide +kernel))) (by decide +kernel), im_X4_become, sl_X4_become, ini_RollTown_Thing⟩
theorem fl_X2_36 : Cond.fieldLink RX2 36 "RollTown$Thing" "state" "I" ∈ xT := xT_in (in_tbl (List.mem_of_getElem? (i := 59) (by decide +kernel))) (by decide +kernel)
theorem fl_X2_43 : Cond.fieldLink RX2 43 "RollTown$Thing" "speed" "I" ∈ xT := xT_in (in_tbl (List.mem_of_getElem? (i := 55) (by decide +kernel))) (by decide +kernel)
theorem fl_X2_22 : Cond.fieldLink RX2 22 "RollTown$Roll" "fastest" "I" ∈ xT := xT_in (in_tbl (List.mem_of_getElem? (i := 140) (by decide +kernel))) (by decide +kernel)
theorem fl_X2_46 : Cond.fieldLink RX2 46 "RollTown$Thing" "cell" "I" ∈ xT := xT_in (in_tbl (List.mem_of_getElem? (i := 51) (by decide +kernel))) (by decide +kernel)
theorem fl_X2_25 : Cond.fieldLink RX2 25 "RollTown$Roll" "cells" "I" ∈ xT := xT_in (in_tbl (List.mem_of_getElem? (i := 142) (by decide +kernel))) (by decide +kernel)
theorem fl_X2_18 : Cond.fieldLink RX2 18 "RollTown$Roll" "took" "I" ∈ xT := xT_in (in_tbl (List.mem_of_getElem? (i := 138) (by decide +kernel))) (by decide +kernel)
theorem fl_X2_49 : Cond.fieldLink RX2 49 "RollTown$Town" "minute" "I" ∈ xT := xT_in (in_tbl (List.mem_of_getElem? (i := 106) (by decide +kernel))) (by decide +kernel)
theorem lk_X2_54 : xLinkV RX2 54 yX5_rollOn := ⟨xT_in (in_tbl (List.mem_of_getElem? (i := 504) (by decide +kernel))) (by decide +kernel), im_X5_rollOn, sl_X5_rollOn, ini_RollTown_Town⟩
theorem lk_X2_58 : xLinkM RX2 58 Lib.Math.max.name Lib.Math.max.code 2 := ⟨xT_in (in_tbl (List.mem_of_getElem? (i := 505) (by decide +kernel))) (by decide +kernel), st_Mmax, ini_java_lang_Math, cd_Mmax⟩
theorem im_X4_letGo : Cond.instanceMethod yX4_letGo ∈ xT := xT_in (in_tbl (List.mem_of_getElem? (i := 369) (by decide +kernel))) (by decide +kernel)
theorem sl_X4_letGo : Cond.selects RX4 yX4_letGo yX4_letGo ∈ xT := xT_in (in_tbl (List.mem_of_getElem? (i := 370) (by decide +kernel))) (by decide +kernel)
theorem lk_X2_39 : xLinkV RX2 39 yX4_letGo := ⟨xT_in (in_tbl (List.mem_of_getElem? (i := 503) (by decide +kernel))) (by decide +kernel), im_X4_letGo, sl_X4_letGo, ini_RollTown_Thing⟩
theorem cd_X4_letGo : Cond.code yX4_letGo cX4_letGo 2 none ∈ xT := xT_in (in_tbl (List.mem_of_getElem? (i := 371) (by decide +kernel))) (by decide +kernel)
theorem xd_X4_letGo : xD yX4_letGo 1 := by decide +kernel
theorem im_X2_runFrom : Cond.instanceMethod yX2_runFrom ∈ xT := xT_in (in_tbl (List.mem_of_getElem? (i := 499) (by decide +kernel))) (by decide +kernel)
theorem sl_X2_runFrom : Cond.selects RX2 yX2_runFrom yX2_runFrom ∈ xT := xT_in (in_tbl (List.mem_of_getElem? (i := 500) (by decide +kernel))) (by decide +kernel)
theorem ini_RollTown_Roll : Cond.initialized RX2 ∈ xT := xT_in (in_tbl (List.mem_of_getElem? (i := 4) (by decide +kernel))) (by decide +kernel)
theorem lk_X2_28 : xLinkV RX2 28 yX2_runFrom := ⟨xT_in (in_tbl (List.mem_of_getElem? (i := 498) (by decide +kernel))) (by decide +kernel), im_X2_runFrom, sl_X2_runFrom, ini_RollTown_Roll⟩
theorem cd_X2_runFrom : Cond.code yX2_runFrom cX2_runFrom 4 none ∈ xT := xT_in (in_tbl (List.mem_of_getElem? (i := 501) (by decide +kernel))) (by decide +kernel)
theorem xd_X2_runFrom : xD yX2_runFrom 3 := by decide +kernel
theorem fl_X1_15 : Cond.fieldLink RX1 15 "RollTown$Reader" "size" "I" ∈ xT := xT_in (in_tbl (List.mem_of_getElem? (i := 170) (by decide +kernel))) (by decide +kernel)
theorem fl_X1_9 : Cond.fieldLink RX1 9 "RollTown$Reader" "bytes" "[I" ∈ xT := xT_in (in_tbl (List.mem_of_getElem? (i := 169) (by decide +kernel))) (by decide +kernel)
theorem lk_X1_74 : xLinkS RX1 74 yX6_within := ⟨Or.inr ⟨"RollTown", xT_in (in_tbl (List.mem_of_getElem? (i := 698) (by decide +kernel))) (by decide +kernel)⟩, st_X6_within, ini_RollTown⟩
theorem fl_X1_31 : Cond.fieldLink RX1 31 "RollTown$Reader" "tokens" "I" ∈ xT := xT_in (in_tbl (List.mem_of_getElem? (i := 176) (by decide +kernel))) (by decide +kernel)
theorem fl_X1_19 : Cond.fieldLink RX1 19 "RollTown$Reader" "begins" "[I" ∈ xT := xT_in (in_tbl (List.mem_of_getElem? (i := 172) (by decide +kernel))) (by decide +kernel)
theorem fl_X1_22 : Cond.fieldLink RX1 22 "RollTown$Reader" "ends" "[I" ∈ xT := xT_in (in_tbl (List.mem_of_getElem? (i := 173) (by decide +kernel))) (by decide +kernel)
theorem fl_X1_25 : Cond.fieldLink RX1 25 "RollTown$Reader" "types" "[I" ∈ xT := xT_in (in_tbl (List.mem_of_getElem? (i := 174) (by decide +kernel))) (by decide +kernel)
theorem fl_X1_28 : Cond.fieldLink RX1 28 "RollTown$Reader" "values" "[I" ∈ xT := xT_in (in_tbl (List.mem_of_getElem? (i := 175) (by decide +kernel))) (by decide +kernel)
theorem lk_X1_68 : xLinkM RX1 68 Lib.Math.min.name Lib.Math.min.code 2 := ⟨xT_in (in_tbl (List.mem_of_getElem? (i := 707) (by decide +kernel))) (by decide +kernel), st_Mmin, ini_java_lang_Math, cd_Mmin⟩
theorem im_X1_beginToken : Cond.instanceMethod yX1_beginToken ∈ xT := xT_in (in_tbl (List.mem_of_getElem? (i := 701) (by decide +kernel))) (by decide +kernel)
theorem sl_X1_beginToken : Cond.selects RX1 yX1_beginToken yX1_beginToken ∈ xT := xT_in (in_sel (List.mem_of_getElem? (i := 16) (by decide +kernel))) (by decide +kernel)
theorem ini_RollTown_Reader : Cond.initialized RX1 ∈ xT := xT_in (in_tbl (List.mem_of_getElem? (i := 6) (by decide +kernel))) (by decide +kernel)
theorem lk_X1_61 : xLinkV RX1 61 yX1_beginToken := ⟨xT_in (in_tbl (List.mem_of_getElem? (i := 699) (by decide +kernel))) (by decide +kernel), im_X1_beginToken, sl_X1_beginToken, ini_RollTown_Reader⟩
theorem cd_X1_beginToken : Cond.code yX1_beginToken cX1_beginToken 3 none ∈ xT := xT_in (in_tbl (List.mem_of_getElem? (i := 702) (by decide +kernel))) (by decide +kernel)
theorem xd_X1_beginToken : xD yX1_beginToken 2 := by decide +kernel
theorem st_X1_typeOf : Cond.static yX1_typeOf ∈ xT := xT_in (in_tbl (List.mem_of_getElem? (i := 696) (by decide +kernel))) (by decide +kernel)
theorem lk_X1_57 : xLinkS RX1 57 yX1_typeOf := ⟨Or.inl (xT_in (in_tbl (List.mem_of_getElem? (i := 695) (by decide +kernel))) (by decide +kernel)), st_X1_typeOf, ini_RollTown_Reader⟩
theorem cd_X1_typeOf : Cond.code yX1_typeOf cX1_typeOf 1 (some .int) ∈ xT := xT_in (in_tbl (List.mem_of_getElem? (i := 697) (by decide +kernel))) (by decide +kernel)
theorem xd_X1_typeOf : xD yX1_typeOf 1 := by decide +kernel
theorem im_X1_growToken : Cond.instanceMethod yX1_growToken ∈ xT := xT_in (in_tbl (List.mem_of_getElem? (i := 705) (by decide +kernel))) (by decide +kernel)
theorem sl_X1_growToken : Cond.selects RX1 yX1_growToken yX1_growToken ∈ xT := xT_in (in_sel (List.mem_of_getElem? (i := 17) (by decide +kernel))) (by decide +kernel)
theorem lk_X1_65 : xLinkV RX1 65 yX1_growToken := ⟨xT_in (in_tbl (List.mem_of_getElem? (i := 703) (by decide +kernel))) (by decide +kernel), im_X1_growToken, sl_X1_growToken, ini_RollTown_Reader⟩
theorem cd_X1_growToken : Cond.code yX1_growToken cX1_growToken 3 none ∈ xT := xT_in (in_tbl (List.mem_of_getElem? (i := 706) (by decide +kernel))) (by decide +kernel)
theorem xd_X1_growToken : xD yX1_growToken 2 := by decide +kernel
theorem fl_X1_34 : Cond.fieldLink RX1 34 "RollTown$Reader" "at" "I" ∈ xT := xT_in (in_tbl (List.mem_of_getElem? (i := 177) (by decide +kernel))) (by decide +kernel)
theorem im_J0_length_8abf5 : Cond.instanceMethod yJ0_length_8abf5 ∈ xT := xT_in (in_tbl (List.mem_of_getElem? (i := 729) (by decide +kernel))) (by decide +kernel)
theorem sl_J0_length_8abf5 : Cond.selects RJ0 yJ0_length_8abf5 yJ0_length_8abf5 ∈ xT := xT_in (in_tbl (List.mem_of_getElem? (i := 730) (by decide +kernel))) (by decide +kernel)
theorem lk_X1_162 : xLinkV RX1 162 yJ0_length_8abf5 := ⟨xT_in (in_tbl (List.mem_of_getElem? (i := 728) (by decide +kernel))) (by decide +kernel), im_J0_length_8abf5, sl_J0_length_8abf5, ini_java_lang_String⟩
theorem cd_J0_length_8abf5 : Cond.code yJ0_length_8abf5 cJ0_length_8abf5 1 (some .int) ∈ xT := xT_in (in_tbl (List.mem_of_getElem? (i := 731) (by decide +kernel))) (by decide +kernel)
theorem xd_J0_length_8abf5 : xD yJ0_length_8abf5 0 := by decide +kernel
theorem im_J0_charAt_5068e : Cond.instanceMethod yJ0_charAt_5068e ∈ xT := xT_in (in_tbl (List.mem_of_getElem? (i := 739) (by decide +kernel))) (by decide +kernel)
theorem sl_J0_charAt_5068e : Cond.selects RJ0 yJ0_charAt_5068e yJ0_charAt_5068e ∈ xT := xT_in (in_tbl (List.mem_of_getElem? (i := 740) (by decide +kernel))) (by decide +kernel)
theorem lk_X1_168 : xLinkV RX1 168 yJ0_charAt_5068e := ⟨xT_in (in_tbl (List.mem_of_getElem? (i := 738) (by decide +kernel))) (by decide +kernel), im_J0_charAt_5068e, sl_J0_charAt_5068e, ini_java_lang_String⟩
theorem cd_J0_charAt_5068e : Cond.code yJ0_charAt_5068e cJ0_charAt_5068e 2 (some .char) ∈ xT := xT_in (in_tbl (List.mem_of_getElem? (i := 741) (by decide +kernel))) (by decide +kernel)
theorem xd_J0_charAt_5068e : xD yJ0_charAt_5068e 1 := by decide +kernel
theorem im_X1_isWord : Cond.instanceMethod yX1_isWord ∈ xT := xT_in (in_tbl (List.mem_of_getElem? (i := 726) (by decide +kernel))) (by decide +kernel)
theorem sl_X1_isWord : Cond.selects RX1 yX1_isWord yX1_isWord ∈ xT := xT_in (in_sel (List.mem_of_getElem? (i := 20) (by decide +kernel))) (by decide +kernel)
theorem lk_X1_93 : xLinkV RX1 93 yX1_isWord := ⟨xT_in (in_tbl (List.mem_of_getElem? (i := 724) (by decide +kernel))) (by decide +kernel), im_X1_isWord, sl_X1_isWord, ini_RollTown_Reader⟩
theorem cd_X1_isWord : Cond.code yX1_isWord cX1_isWord 3 (some .boolean) ∈ xT := xT_in (in_tbl (List.mem_of_getElem? (i := 727) (by decide +kernel))) (by decide +kernel)
theorem xd_X1_isWord : xD yX1_isWord 1 := by decide +kernel
theorem im_X1_goOn : Cond.instanceMethod yX1_goOn ∈ xT := xT_in (in_tbl (List.mem_of_getElem? (i := 778) (by decide +kernel))) (by decide +kernel)
theorem sl_X1_goOn : Cond.selects RX1 yX1_goOn yX1_goOn ∈ xT := xT_in (in_sel (List.mem_of_getElem? (i := 21) (by decide +kernel))) (by decide +kernel)
theorem lk_X1_137 : xLinkV RX1 137 yX1_goOn := ⟨xT_in (in_tbl (List.mem_of_getElem? (i := 776) (by decide +kernel))) (by decide +kernel), im_X1_goOn, sl_X1_goOn, ini_RollTown_Reader⟩
theorem cd_X1_goOn : Cond.code yX1_goOn cX1_goOn 1 none ∈ xT := xT_in (in_tbl (List.mem_of_getElem? (i := 779) (by decide +kernel))) (by decide +kernel)
theorem xd_X1_goOn : xD yX1_goOn 0 := by decide +kernel
theorem fl_X1_37 : Cond.fieldLink RX1 37 "RollTown$Reader" "number" "I" ∈ xT := xT_in (in_tbl (List.mem_of_getElem? (i := 178) (by decide +kernel))) (by decide +kernel)
theorem im_X1_takeNumber : Cond.instanceMethod yX1_takeNumber ∈ xT := xT_in (in_tbl (List.mem_of_getElem? (i := 790) (by decide +kernel))) (by decide +kernel)
theorem sl_X1_takeNumber : Cond.selects RX1 yX1_takeNumber yX1_takeNumber ∈ xT := xT_in (in_sel (List.mem_of_getElem? (i := 24) (by decide +kernel))) (by decide +kernel)
theorem lk_X1_123 : xLinkV RX1 123 yX1_takeNumber := ⟨xT_in (in_tbl (List.mem_of_getElem? (i := 788) (by decide +kernel))) (by decide +kernel), im_X1_takeNumber, sl_X1_takeNumber, ini_RollTown_Reader⟩
theorem cd_X1_takeNumber : Cond.code yX1_takeNumber cX1_takeNumber 3 (some .boolean) ∈ xT := xT_in (in_tbl (List.mem_of_getElem? (i := 791) (by decide +kernel))) (by decide +kernel)
theorem xd_X1_takeNumber : xD yX1_takeNumber 2 := by decide +kernel
theorem fl_X1_40 : Cond.fieldLink RX1 40 "RollTown$Reader" "from" "I" ∈ xT := xT_in (in_tbl (List.mem_of_getElem? (i := 179) (by decide +kernel))) (by decide +kernel)
theorem fl_X1_43 : Cond.fieldLink RX1 43 "RollTown$Reader" "to" "I" ∈ xT := xT_in (in_tbl (List.mem_of_getElem? (i := 180) (by decide +kernel))) (by decide +kernel)
theorem im_X1_takeWord : Cond.instanceMethod yX1_takeWord ∈ xT := xT_in (in_tbl (List.mem_of_getElem? (i := 722) (by decide +kernel))) (by decide +kernel)
theorem sl_X1_takeWord : Cond.selects RX1 yX1_takeWord yX1_takeWord ∈ xT := xT_in (in_sel (List.mem_of_getElem? (i := 19) (by decide +kernel))) (by decide +kernel)
theorem lk_X1_82 : xLinkV RX1 82 yX1_takeWord := ⟨xT_in (in_tbl (List.mem_of_getElem? (i := 720) (by decide +kernel))) (by decide +kernel), im_X1_takeWord, sl_X1_takeWord, ini_RollTown_Reader⟩
theorem cd_X1_takeWord : Cond.code yX1_takeWord cX1_takeWord 3 (some .boolean) ∈ xT := xT_in (in_tbl (List.mem_of_getElem? (i := 723) (by decide +kernel))) (by decide +kernel)
theorem xd_X1_takeWord : xD yX1_takeWord 1 := by decide +kernel
theorem im_X1_takeCells : Cond.instanceMethod yX1_takeCells ∈ xT := xT_in (in_tbl (List.mem_of_getElem? (i := 786) (by decide +kernel))) (by decide +kernel)
theorem sl_X1_takeCells : Cond.selects RX1 yX1_takeCells yX1_takeCells ∈ xT := xT_in (in_sel (List.mem_of_getElem? (i := 23) (by decide +kernel))) (by decide +kernel)
theorem lk_X1_115 : xLinkV RX1 115 yX1_takeCells := ⟨xT_in (in_tbl (List.mem_of_getElem? (i := 784) (by decide +kernel))) (by decide +kernel), im_X1_takeCells, sl_X1_takeCells, ini_RollTown_Reader⟩
theorem cd_X1_takeCells : Cond.code yX1_takeCells cX1_takeCells 1 (some .boolean) ∈ xT := xT_in (in_tbl (List.mem_of_getElem? (i := 787) (by decide +kernel))) (by decide +kernel)
theorem xd_X1_takeCells : xD yX1_takeCells 0 := by decide +kernel
theorem fl_X1_118 : Cond.fieldLink RX1 118 "RollTown$Town" "grounds" "[I" ∈ xT := xT_in (in_tbl (List.mem_of_getElem? (i := 88) (by decide +kernel))) (by decide +kernel)
theorem im_X5_addThing : Cond.instanceMethod yX5_addThing ∈ xT := xT_in (in_tbl (List.mem_of_getElem? (i := 311) (by decide +kernel))) (by decide +kernel)
theorem sl_X5_addThing : Cond.selects RX5 yX5_addThing yX5_addThing ∈ xT := xT_in (in_tbl (List.mem_of_getElem? (i := 312) (by decide +kernel))) (by decide +kernel)
theorem lk_X1_140 : xLinkV RX1 140 yX5_addThing := ⟨xT_in (in_tbl (List.mem_of_getElem? (i := 808) (by decide +kernel))) (by decide +kernel), im_X5_addThing, sl_X5_addThing, ini_RollTown_Town⟩
theorem cd_X5_addThing : Cond.code yX5_addThing cX5_addThing 3 none ∈ xT := xT_in (in_tbl (List.mem_of_getElem? (i := 313) (by decide +kernel))) (by decide +kernel)
theorem xd_X5_addThing : xD yX5_addThing 2 := by decide +kernel
theorem fl_X1_143 : Cond.fieldLink RX1 143 "RollTown$Town" "things" "[LRollTown$Thing;" ∈ xT := xT_in (in_tbl (List.mem_of_getElem? (i := 92) (by decide +kernel))) (by decide +kernel)
theorem fl_X1_147 : Cond.fieldLink RX1 147 "RollTown$Town" "size" "I" ∈ xT := xT_in (in_tbl (List.mem_of_getElem? (i := 98) (by decide +kernel))) (by decide +kernel)
theorem fl_X1_160 : Cond.fieldLink RX1 160 "RollTown$Thing" "lean" "I" ∈ xT := xT_in (in_tbl (List.mem_of_getElem? (i := 49) (by decide +kernel))) (by decide +kernel)
theorem fl_X1_156 : Cond.fieldLink RX1 156 "RollTown$Thing" "rolls" "I" ∈ xT := xT_in (in_tbl (List.mem_of_getElem? (i := 46) (by decide +kernel))) (by decide +kernel)
theorem fl_X1_150 : Cond.fieldLink RX1 150 "RollTown$Thing" "weight" "I" ∈ xT := xT_in (in_tbl (List.mem_of_getElem? (i := 42) (by decide +kernel))) (by decide +kernel)
theorem im_X1_takeSign : Cond.instanceMethod yX1_takeSign ∈ xT := xT_in (in_tbl (List.mem_of_getElem? (i := 820) (by decide +kernel))) (by decide +kernel)
theorem sl_X1_takeSign : Cond.selects RX1 yX1_takeSign yX1_takeSign ∈ xT := xT_in (in_sel (List.mem_of_getElem? (i := 27) (by decide +kernel))) (by decide +kernel)
theorem lk_X1_53 : xLinkV RX1 53 yX1_takeSign := ⟨xT_in (in_tbl (List.mem_of_getElem? (i := 818) (by decide +kernel))) (by decide +kernel), im_X1_takeSign, sl_X1_takeSign, ini_RollTown_Reader⟩
theorem cd_X1_takeSign : Cond.code yX1_takeSign cX1_takeSign 3 (some .boolean) ∈ xT := xT_in (in_tbl (List.mem_of_getElem? (i := 821) (by decide +kernel))) (by decide +kernel)
theorem xd_X1_takeSign : xD yX1_takeSign 1 := by decide +kernel
theorem fl_X1_127 : Cond.fieldLink RX1 127 "RollTown$Town" "falls" "[I" ∈ xT := xT_in (in_tbl (List.mem_of_getElem? (i := 85) (by decide +kernel))) (by decide +kernel)
theorem fl_X1_131 : Cond.fieldLink RX1 131 "RollTown$Town" "shutFirst" "I" ∈ xT := xT_in (in_tbl (List.mem_of_getElem? (i := 101) (by decide +kernel))) (by decide +kernel)
theorem fl_X1_134 : Cond.fieldLink RX1 134 "RollTown$Town" "shutLast" "I" ∈ xT := xT_in (in_tbl (List.mem_of_getElem? (i := 104) (by decide +kernel))) (by decide +kernel)
theorem im_X1_readShut : Cond.instanceMethod yX1_readShut ∈ xT := xT_in (in_tbl (List.mem_of_getElem? (i := 825) (by decide +kernel))) (by decide +kernel)
theorem sl_X1_readShut : Cond.selects RX1 yX1_readShut yX1_readShut ∈ xT := xT_in (in_sel (List.mem_of_getElem? (i := 28) (by decide +kernel))) (by decide +kernel)
theorem lk_X1_112 : xLinkV RX1 112 yX1_readShut := ⟨xT_in (in_tbl (List.mem_of_getElem? (i := 823) (by decide +kernel))) (by decide +kernel), im_X1_readShut, sl_X1_readShut, ini_RollTown_Reader⟩
theorem cd_X1_readShut : Cond.code yX1_readShut cX1_readShut 2 (some .boolean) ∈ xT := xT_in (in_tbl (List.mem_of_getElem? (i := 826) (by decide +kernel))) (by decide +kernel)
theorem xd_X1_readShut : xD yX1_readShut 1 := by decide +kernel
theorem im_X1_readFall : Cond.instanceMethod yX1_readFall ∈ xT := xT_in (in_tbl (List.mem_of_getElem? (i := 815) (by decide +kernel))) (by decide +kernel)
theorem sl_X1_readFall : Cond.selects RX1 yX1_readFall yX1_readFall ∈ xT := xT_in (in_sel (List.mem_of_getElem? (i := 26) (by decide +kernel))) (by decide +kernel)
theorem lk_X1_107 : xLinkV RX1 107 yX1_readFall := ⟨xT_in (in_tbl (List.mem_of_getElem? (i := 813) (by decide +kernel))) (by decide +kernel), im_X1_readFall, sl_X1_readFall, ini_RollTown_Reader⟩
theorem cd_X1_readFall : Cond.code yX1_readFall cX1_readFall 4 (some .boolean) ∈ xT := xT_in (in_tbl (List.mem_of_getElem? (i := 816) (by decide +kernel))) (by decide +kernel)
theorem xd_X1_readFall : xD yX1_readFall 1 := by decide +kernel
theorem st_X1_nameOfKind : Cond.static yX1_nameOfKind ∈ xT := xT_in (in_tbl (List.mem_of_getElem? (i := 794) (by decide +kernel))) (by decide +kernel)
theorem lk_X1_90 : xLinkS RX1 90 yX1_nameOfKind := ⟨Or.inl (xT_in (in_tbl (List.mem_of_getElem? (i := 793) (by decide +kernel))) (by decide +kernel)), st_X1_nameOfKind, ini_RollTown_Reader⟩
theorem cd_X1_nameOfKind : Cond.code yX1_nameOfKind cX1_nameOfKind 1 (some (.object "java/lang/String")) ∈ xT := xT_in (in_tbl (List.mem_of_getElem? (i := 795) (by decide +kernel))) (by decide +kernel)
theorem xd_X1_nameOfKind : xD yX1_nameOfKind 1 := by decide +kernel
theorem lk_X1_96 : xLinkV RX1 96 yX5_isFull := ⟨xT_in (in_tbl (List.mem_of_getElem? (i := 803) (by decide +kernel))) (by decide +kernel), im_X5_isFull, sl_X5_isFull, ini_RollTown_Town⟩
theorem im_X1_readThing : Cond.instanceMethod yX1_readThing ∈ xT := xT_in (in_tbl (List.mem_of_getElem? (i := 806) (by decide +kernel))) (by decide +kernel)
theorem sl_X1_readThing : Cond.selects RX1 yX1_readThing yX1_readThing ∈ xT := xT_in (in_sel (List.mem_of_getElem? (i := 25) (by decide +kernel))) (by decide +kernel)
theorem lk_X1_102 : xLinkV RX1 102 yX1_readThing := ⟨xT_in (in_tbl (List.mem_of_getElem? (i := 804) (by decide +kernel))) (by decide +kernel), im_X1_readThing, sl_X1_readThing, ini_RollTown_Reader⟩
theorem cd_X1_readThing : Cond.code yX1_readThing cX1_readThing 4 (some .boolean) ∈ xT := xT_in (in_tbl (List.mem_of_getElem? (i := 807) (by decide +kernel))) (by decide +kernel)
theorem xd_X1_readThing : xD yX1_readThing 2 := by decide +kernel
theorem st_X1_nameOfGround : Cond.static yX1_nameOfGround ∈ xT := xT_in (in_tbl (List.mem_of_getElem? (i := 713) (by decide +kernel))) (by decide +kernel)
theorem lk_X1_78 : xLinkS RX1 78 yX1_nameOfGround := ⟨Or.inl (xT_in (in_tbl (List.mem_of_getElem? (i := 712) (by decide +kernel))) (by decide +kernel)), st_X1_nameOfGround, ini_RollTown_Reader⟩
theorem cd_X1_nameOfGround : Cond.code yX1_nameOfGround cX1_nameOfGround 1 (some (.object "java/lang/String")) ∈ xT := xT_in (in_tbl (List.mem_of_getElem? (i := 714) (by decide +kernel))) (by decide +kernel)
theorem xd_X1_nameOfGround : xD yX1_nameOfGround 1 := by decide +kernel
theorem im_X1_readGround : Cond.instanceMethod yX1_readGround ∈ xT := xT_in (in_tbl (List.mem_of_getElem? (i := 782) (by decide +kernel))) (by decide +kernel)
theorem sl_X1_readGround : Cond.selects RX1 yX1_readGround yX1_readGround ∈ xT := xT_in (in_sel (List.mem_of_getElem? (i := 22) (by decide +kernel))) (by decide +kernel)
theorem lk_X1_86 : xLinkV RX1 86 yX1_readGround := ⟨xT_in (in_tbl (List.mem_of_getElem? (i := 780) (by decide +kernel))) (by decide +kernel), im_X1_readGround, sl_X1_readGround, ini_RollTown_Reader⟩
theorem cd_X1_readGround : Cond.code yX1_readGround cX1_readGround 4 (some .boolean) ∈ xT := xT_in (in_tbl (List.mem_of_getElem? (i := 783) (by decide +kernel))) (by decide +kernel)
theorem xd_X1_readGround : xD yX1_readGround 2 := by decide +kernel
theorem im_X1_splitTape : Cond.instanceMethod yX1_splitTape ∈ xT := xT_in (in_tbl (List.mem_of_getElem? (i := 693) (by decide +kernel))) (by decide +kernel)
theorem sl_X1_splitTape : Cond.selects RX1 yX1_splitTape yX1_splitTape ∈ xT := xT_in (in_sel (List.mem_of_getElem? (i := 15) (by decide +kernel))) (by decide +kernel)
theorem lk_X1_46 : xLinkV RX1 46 yX1_splitTape := ⟨xT_in (in_tbl (List.mem_of_getElem? (i := 691) (by decide +kernel))) (by decide +kernel), im_X1_splitTape, sl_X1_splitTape, ini_RollTown_Reader⟩
theorem cd_X1_splitTape : Cond.code yX1_splitTape cX1_splitTape 5 none ∈ xT := xT_in (in_tbl (List.mem_of_getElem? (i := 694) (by decide +kernel))) (by decide +kernel)
theorem xd_X1_splitTape : xD yX1_splitTape 0 := by decide +kernel
theorem im_X1_readItem : Cond.instanceMethod yX1_readItem ∈ xT := xT_in (in_tbl (List.mem_of_getElem? (i := 710) (by decide +kernel))) (by decide +kernel)
theorem sl_X1_readItem : Cond.selects RX1 yX1_readItem yX1_readItem ∈ xT := xT_in (in_sel (List.mem_of_getElem? (i := 18) (by decide +kernel))) (by decide +kernel)
theorem lk_X1_49 : xLinkV RX1 49 yX1_readItem := ⟨xT_in (in_tbl (List.mem_of_getElem? (i := 708) (by decide +kernel))) (by decide +kernel), im_X1_readItem, sl_X1_readItem, ini_RollTown_Reader⟩
theorem cd_X1_readItem : Cond.code yX1_readItem cX1_readItem 3 (some .boolean) ∈ xT := xT_in (in_tbl (List.mem_of_getElem? (i := 711) (by decide +kernel))) (by decide +kernel)
theorem xd_X1_readItem : xD yX1_readItem 1 := by decide +kernel
theorem co_X6_71 : Cond.constant RX6 71 (-1000001) ∈ xT := xT_in (in_tbl (List.mem_of_getElem? (i := 271) (by decide +kernel))) (by decide +kernel)
theorem fl_X6_60 : Cond.fieldLink RX6 60 "RollTown" "refusals" "[I" ∈ xT := xT_in (in_tbl (List.mem_of_getElem? (i := 234) (by decide +kernel))) (by decide +kernel)
theorem st_X6_isCell : Cond.static yX6_isCell ∈ xT := xT_in (in_tbl (List.mem_of_getElem? (i := 263) (by decide +kernel))) (by decide +kernel)
theorem lk_X6_64 : xLinkS RX6 64 yX6_isCell := ⟨Or.inl (xT_in (in_tbl (List.mem_of_getElem? (i := 262) (by decide +kernel))) (by decide +kernel)), st_X6_isCell, ini_RollTown⟩
theorem cd_X6_isCell : Cond.code yX6_isCell cX6_isCell 1 (some .boolean) ∈ xT := xT_in (in_tbl (List.mem_of_getElem? (i := 264) (by decide +kernel))) (by decide +kernel)
theorem xd_X6_isCell : xD yX6_isCell 1 := by decide +kernel
theorem im_X6_refuse : Cond.instanceMethod yX6_refuse ∈ xT := xT_in (in_tbl (List.mem_of_getElem? (i := 274) (by decide +kernel))) (by decide +kernel)
theorem sl_X6_refuse : Cond.selects RX6 yX6_refuse yX6_refuse ∈ xT := xT_in (in_sel (List.mem_of_getElem? (i := 0) (by decide +kernel))) (by decide +kernel)
theorem lk_X6_72 : xLinkV RX6 72 yX6_refuse := ⟨xT_in (in_tbl (List.mem_of_getElem? (i := 272) (by decide +kernel))) (by decide +kernel), im_X6_refuse, sl_X6_refuse, ini_RollTown⟩
theorem cd_X6_refuse : Cond.code yX6_refuse cX6_refuse 3 (some .int) ∈ xT := xT_in (in_tbl (List.mem_of_getElem? (i := 275) (by decide +kernel))) (by decide +kernel)
theorem xd_X6_refuse : xD yX6_refuse 1 := by decide +kernel
theorem st_X6_isFall : Cond.static yX6_isFall ∈ xT := xT_in (in_tbl (List.mem_of_getElem? (i := 269) (by decide +kernel))) (by decide +kernel)
theorem lk_X6_68 : xLinkS RX6 68 yX6_isFall := ⟨Or.inl (xT_in (in_tbl (List.mem_of_getElem? (i := 268) (by decide +kernel))) (by decide +kernel)), st_X6_isFall, ini_RollTown⟩
theorem cd_X6_isFall : Cond.code yX6_isFall cX6_isFall 1 (some .boolean) ∈ xT := xT_in (in_tbl (List.mem_of_getElem? (i := 270) (by decide +kernel))) (by decide +kernel)
theorem xd_X6_isFall : xD yX6_isFall 1 := by decide +kernel
theorem fl_X6_12 : Cond.fieldLink RX6 12 "RollTown" "now" "LRollTown$Town;" ∈ xT := xT_in (in_tbl (List.mem_of_getElem? (i := 224) (by decide +kernel))) (by decide +kernel)
theorem fl_X6_76 : Cond.fieldLink RX6 76 "RollTown$Town" "falls" "[I" ∈ xT := xT_in (in_tbl (List.mem_of_getElem? (i := 84) (by decide +kernel))) (by decide +kernel)
theorem fl_X6_83 : Cond.fieldLink RX6 83 "RollTown$Town" "grounds" "[I" ∈ xT := xT_in (in_tbl (List.mem_of_getElem? (i := 87) (by decide +kernel))) (by decide +kernel)
theorem st_X6_isMinuteOfHour : Cond.static yX6_isMinuteOfHour ∈ xT := xT_in (in_tbl (List.mem_of_getElem? (i := 285) (by decide +kernel))) (by decide +kernel)
theorem lk_X6_86 : xLinkS RX6 86 yX6_isMinuteOfHour := ⟨Or.inl (xT_in (in_tbl (List.mem_of_getElem? (i := 284) (by decide +kernel))) (by decide +kernel)), st_X6_isMinuteOfHour, ini_RollTown⟩
theorem cd_X6_isMinuteOfHour : Cond.code yX6_isMinuteOfHour cX6_isMinuteOfHour 1 (some .boolean) ∈ xT := xT_in (in_tbl (List.mem_of_getElem? (i := 286) (by decide +kernel))) (by decide +kernel)
theorem xd_X6_isMinuteOfHour : xD yX6_isMinuteOfHour 1 := by decide +kernel
theorem fl_X6_93 : Cond.fieldLink RX6 93 "RollTown$Town" "shutLast" "I" ∈ xT := xT_in (in_tbl (List.mem_of_getElem? (i := 103) (by decide +kernel))) (by decide +kernel)
theorem fl_X6_89 : Cond.fieldLink RX6 89 "RollTown$Town" "shutFirst" "I" ∈ xT := xT_in (in_tbl (List.mem_of_getElem? (i := 100) (by decide +kernel))) (by decide +kernel)
theorem lk_X6_96 : xLinkV RX6 96 yX5_gatesAreShut := ⟨xT_in (in_tbl (List.mem_of_getElem? (i := 291) (by decide +kernel))) (by decide +kernel), im_X5_gatesAreShut, sl_X5_gatesAreShut, ini_RollTown_Town⟩
theorem st_X6_isKind : Cond.static yX6_isKind ∈ xT := xT_in (in_tbl (List.mem_of_getElem? (i := 300) (by decide +kernel))) (by decide +kernel)
theorem lk_X6_99 : xLinkS RX6 99 yX6_isKind := ⟨Or.inl (xT_in (in_tbl (List.mem_of_getElem? (i := 299) (by decide +kernel))) (by decide +kernel)), st_X6_isKind, ini_RollTown⟩
theorem cd_X6_isKind : Cond.code yX6_isKind cX6_isKind 1 (some .boolean) ∈ xT := xT_in (in_tbl (List.mem_of_getElem? (i := 301) (by decide +kernel))) (by decide +kernel)
theorem xd_X6_isKind : xD yX6_isKind 1 := by decide +kernel
theorem st_X6_isWeight : Cond.static yX6_isWeight ∈ xT := xT_in (in_tbl (List.mem_of_getElem? (i := 303) (by decide +kernel))) (by decide +kernel)
theorem lk_X6_102 : xLinkS RX6 102 yX6_isWeight := ⟨Or.inl (xT_in (in_tbl (List.mem_of_getElem? (i := 302) (by decide +kernel))) (by decide +kernel)), st_X6_isWeight, ini_RollTown⟩
theorem cd_X6_isWeight : Cond.code yX6_isWeight cX6_isWeight 1 (some .boolean) ∈ xT := xT_in (in_tbl (List.mem_of_getElem? (i := 304) (by decide +kernel))) (by decide +kernel)
theorem xd_X6_isWeight : xD yX6_isWeight 1 := by decide +kernel
theorem lk_X6_105 : xLinkV RX6 105 yX5_isFull := ⟨xT_in (in_tbl (List.mem_of_getElem? (i := 305) (by decide +kernel))) (by decide +kernel), im_X5_isFull, sl_X5_isFull, ini_RollTown_Town⟩
theorem lk_X6_110 : xLinkV RX6 110 yX5_addThing := ⟨xT_in (in_tbl (List.mem_of_getElem? (i := 310) (by decide +kernel))) (by decide +kernel), im_X5_addThing, sl_X5_addThing, ini_RollTown_Town⟩
theorem fl_X6_114 : Cond.fieldLink RX6 114 "RollTown$Town" "size" "I" ∈ xT := xT_in (in_tbl (List.mem_of_getElem? (i := 97) (by decide +kernel))) (by decide +kernel)
theorem co_X6_109 : Cond.constant RX6 109 (-1000002) ∈ xT := xT_in (in_tbl (List.mem_of_getElem? (i := 309) (by decide +kernel))) (by decide +kernel)
theorem im_X6_isThing : Cond.instanceMethod yX6_isThing ∈ xT := xT_in (in_tbl (List.mem_of_getElem? (i := 325) (by decide +kernel))) (by decide +kernel)
theorem sl_X6_isThing : Cond.selects RX6 yX6_isThing yX6_isThing ∈ xT := xT_in (in_sel (List.mem_of_getElem? (i := 1) (by decide +kernel))) (by decide +kernel)
theorem lk_X6_117 : xLinkV RX6 117 yX6_isThing := ⟨xT_in (in_tbl (List.mem_of_getElem? (i := 323) (by decide +kernel))) (by decide +kernel), im_X6_isThing, sl_X6_isThing, ini_RollTown⟩
theorem cd_X6_isThing : Cond.code yX6_isThing cX6_isThing 2 (some .boolean) ∈ xT := xT_in (in_tbl (List.mem_of_getElem? (i := 326) (by decide +kernel))) (by decide +kernel)
theorem xd_X6_isThing : xD yX6_isThing 1 := by decide +kernel
theorem fl_X6_120 : Cond.fieldLink RX6 120 "RollTown$Town" "things" "[LRollTown$Thing;" ∈ xT := xT_in (in_tbl (List.mem_of_getElem? (i := 91) (by decide +kernel))) (by decide +kernel)
theorem fl_X6_124 : Cond.fieldLink RX6 124 "RollTown$Thing" "kind" "I" ∈ xT := xT_in (in_tbl (List.mem_of_getElem? (i := 38) (by decide +kernel))) (by decide +kernel)
theorem fl_X6_129 : Cond.fieldLink RX6 129 "RollTown$Thing" "weight" "I" ∈ xT := xT_in (in_tbl (List.mem_of_getElem? (i := 41) (by decide +kernel))) (by decide +kernel)
theorem fl_X6_132 : Cond.fieldLink RX6 132 "RollTown$Thing" "rolls" "I" ∈ xT := xT_in (in_tbl (List.mem_of_getElem? (i := 45) (by decide +kernel))) (by decide +kernel)
theorem fl_X6_135 : Cond.fieldLink RX6 135 "RollTown$Thing" "lean" "I" ∈ xT := xT_in (in_tbl (List.mem_of_getElem? (i := 48) (by decide +kernel))) (by decide +kernel)
theorem fl_X6_138 : Cond.fieldLink RX6 138 "RollTown$Thing" "cell" "I" ∈ xT := xT_in (in_tbl (List.mem_of_getElem? (i := 52) (by decide +kernel))) (by decide +kernel)
theorem fl_X6_141 : Cond.fieldLink RX6 141 "RollTown$Thing" "speed" "I" ∈ xT := xT_in (in_tbl (List.mem_of_getElem? (i := 56) (by decide +kernel))) (by decide +kernel)
theorem fl_X6_144 : Cond.fieldLink RX6 144 "RollTown$Thing" "state" "I" ∈ xT := xT_in (in_tbl (List.mem_of_getElem? (i := 61) (by decide +kernel))) (by decide +kernel)
theorem fl_X6_147 : Cond.fieldLink RX6 147 "RollTown$Thing" "damage" "I" ∈ xT := xT_in (in_tbl (List.mem_of_getElem? (i := 63) (by decide +kernel))) (by decide +kernel)
theorem lk_X6_150 : xLinkV RX6 150 yX4_bendLimit := ⟨xT_in (in_tbl (List.mem_of_getElem? (i := 327) (by decide +kernel))) (by decide +kernel), im_X4_bendLimit, sl_X4_bendLimit, ini_RollTown_Thing⟩
theorem st_X6_isLean : Cond.static yX6_isLean ∈ xT := xT_in (in_tbl (List.mem_of_getElem? (i := 339) (by decide +kernel))) (by decide +kernel)
theorem lk_X6_157 : xLinkS RX6 157 yX6_isLean := ⟨Or.inl (xT_in (in_tbl (List.mem_of_getElem? (i := 338) (by decide +kernel))) (by decide +kernel)), st_X6_isLean, ini_RollTown⟩
theorem cd_X6_isLean : Cond.code yX6_isLean cX6_isLean 1 (some .boolean) ∈ xT := xT_in (in_tbl (List.mem_of_getElem? (i := 340) (by decide +kernel))) (by decide +kernel)
theorem xd_X6_isLean : xD yX6_isLean 1 := by decide +kernel
theorem st_X6_isRolls : Cond.static yX6_isRolls ∈ xT := xT_in (in_tbl (List.mem_of_getElem? (i := 336) (by decide +kernel))) (by decide +kernel)
theorem lk_X6_154 : xLinkS RX6 154 yX6_isRolls := ⟨Or.inl (xT_in (in_tbl (List.mem_of_getElem? (i := 335) (by decide +kernel))) (by decide +kernel)), st_X6_isRolls, ini_RollTown⟩
theorem cd_X6_isRolls : Cond.code yX6_isRolls cX6_isRolls 1 (some .boolean) ∈ xT := xT_in (in_tbl (List.mem_of_getElem? (i := 337) (by decide +kernel))) (by decide +kernel)
theorem xd_X6_isRolls : xD yX6_isRolls 1 := by decide +kernel
theorem lk_X6_163 : xLinkV RX6 163 yX4_dragOn := ⟨xT_in (in_tbl (List.mem_of_getElem? (i := 352) (by decide +kernel))) (by decide +kernel), im_X4_dragOn, sl_X4_dragOn, ini_RollTown_Thing⟩
theorem lk_X6_160 : xLinkV RX6 160 yX4_gainFrom := ⟨xT_in (in_tbl (List.mem_of_getElem? (i := 345) (by decide +kernel))) (by decide +kernel), im_X4_gainFrom, sl_X4_gainFrom, ini_RollTown_Thing⟩
theorem im_X4_canBeLetGo : Cond.instanceMethod yX4_canBeLetGo ∈ xT := xT_in (in_tbl (List.mem_of_getElem? (i := 364) (by decide +kernel))) (by decide +kernel)
theorem sl_X4_canBeLetGo : Cond.selects RX4 yX4_canBeLetGo yX4_canBeLetGo ∈ xT := xT_in (in_tbl (List.mem_of_getElem? (i := 365) (by decide +kernel))) (by decide +kernel)
theorem lk_X6_166 : xLinkV RX6 166 yX4_canBeLetGo := ⟨xT_in (in_tbl (List.mem_of_getElem? (i := 363) (by decide +kernel))) (by decide +kernel), im_X4_canBeLetGo, sl_X4_canBeLetGo, ini_RollTown_Thing⟩
theorem cd_X4_canBeLetGo : Cond.code yX4_canBeLetGo cX4_canBeLetGo 1 (some .boolean) ∈ xT := xT_in (in_tbl (List.mem_of_getElem? (i := 366) (by decide +kernel))) (by decide +kernel)
theorem xd_X4_canBeLetGo : xD yX4_canBeLetGo 0 := by decide +kernel
theorem lk_X6_170 : xLinkV RX6 170 yX4_letGo := ⟨xT_in (in_tbl (List.mem_of_getElem? (i := 368) (by decide +kernel))) (by decide +kernel), im_X4_letGo, sl_X4_letGo, ini_RollTown_Thing⟩
theorem co_X6_169 : Cond.constant RX6 169 (-1000005) ∈ xT := xT_in (in_tbl (List.mem_of_getElem? (i := 367) (by decide +kernel))) (by decide +kernel)
theorem lk_X6_174 : xLinkV RX6 174 yX4_stop := ⟨xT_in (in_tbl (List.mem_of_getElem? (i := 376) (by decide +kernel))) (by decide +kernel), im_X4_stop, sl_X4_stop, ini_RollTown_Thing⟩
theorem fl_X6_177 : Cond.fieldLink RX6 177 "RollTown$Town" "minute" "I" ∈ xT := xT_in (in_tbl (List.mem_of_getElem? (i := 107) (by decide +kernel))) (by decide +kernel)
theorem lk_X6_180 : xLinkV RX6 180 yX5_allIn := ⟨xT_in (in_tbl (List.mem_of_getElem? (i := 384) (by decide +kernel))) (by decide +kernel), im_X5_allIn, sl_X5_allIn, ini_RollTown_Town⟩
theorem lk_X6_183 : xLinkS RX6 183 yJ6_bitCount_0f7a4 := ⟨Or.inl (xT_in (in_tbl (List.mem_of_getElem? (i := 388) (by decide +kernel))) (by decide +kernel)), st_J6_bitCount_0f7a4, ini_java_lang_Integer⟩
theorem im_X5_passMinutes : Cond.instanceMethod yX5_passMinutes ∈ xT := xT_in (in_tbl (List.mem_of_getElem? (i := 395) (by decide +kernel))) (by decide +kernel)
theorem sl_X5_passMinutes : Cond.selects RX5 yX5_passMinutes yX5_passMinutes ∈ xT := xT_in (in_tbl (List.mem_of_getElem? (i := 396) (by decide +kernel))) (by decide +kernel)
theorem lk_X6_188 : xLinkV RX6 188 yX5_passMinutes := ⟨xT_in (in_tbl (List.mem_of_getElem? (i := 394) (by decide +kernel))) (by decide +kernel), im_X5_passMinutes, sl_X5_passMinutes, ini_RollTown_Town⟩
theorem cd_X5_passMinutes : Cond.code yX5_passMinutes cX5_passMinutes 4 (some .int) ∈ xT := xT_in (in_tbl (List.mem_of_getElem? (i := 397) (by decide +kernel))) (by decide +kernel)
theorem xd_X5_passMinutes : xD yX5_passMinutes 1 := by decide +kernel
theorem lk_X6_191 : xLinkV RX6 191 yX5_allOn := ⟨xT_in (in_tbl (List.mem_of_getElem? (i := 448) (by decide +kernel))) (by decide +kernel), im_X5_allOn, sl_X5_allOn, ini_RollTown_Town⟩
theorem fl_X6_23 : Cond.fieldLink RX6 23 "RollTown" "later" "LRollTown$Town;" ∈ xT := xT_in (in_tbl (List.mem_of_getElem? (i := 227) (by decide +kernel))) (by decide +kernel)
theorem im_X5_become : Cond.instanceMethod yX5_become ∈ xT := xT_in (in_tbl (List.mem_of_getElem? (i := 454) (by decide +kernel))) (by decide +kernel)
theorem sl_X5_become : Cond.selects RX5 yX5_become yX5_become ∈ xT := xT_in (in_tbl (List.mem_of_getElem? (i := 455) (by decide +kernel))) (by decide +kernel)
theorem lk_X6_194 : xLinkV RX6 194 yX5_become := ⟨xT_in (in_tbl (List.mem_of_getElem? (i := 453) (by decide +kernel))) (by decide +kernel), im_X5_become, sl_X5_become, ini_RollTown_Town⟩
theorem cd_X5_become : Cond.code yX5_become cX5_become 3 none ∈ xT := xT_in (in_tbl (List.mem_of_getElem? (i := 456) (by decide +kernel))) (by decide +kernel)
theorem xd_X5_become : xD yX5_become 1 := by decide +kernel
theorem im_X5_restingOnFoot : Cond.instanceMethod yX5_restingOnFoot ∈ xT := xT_in (in_tbl (List.mem_of_getElem? (i := 465) (by decide +kernel))) (by decide +kernel)
theorem sl_X5_restingOnFoot : Cond.selects RX5 yX5_restingOnFoot yX5_restingOnFoot ∈ xT := xT_in (in_tbl (List.mem_of_getElem? (i := 466) (by decide +kernel))) (by decide +kernel)
theorem lk_X6_198 : xLinkV RX6 198 yX5_restingOnFoot := ⟨xT_in (in_tbl (List.mem_of_getElem? (i := 464) (by decide +kernel))) (by decide +kernel), im_X5_restingOnFoot, sl_X5_restingOnFoot, ini_RollTown_Town⟩
theorem cd_X5_restingOnFoot : Cond.code yX5_restingOnFoot cX5_restingOnFoot 1 (some .int) ∈ xT := xT_in (in_tbl (List.mem_of_getElem? (i := 467) (by decide +kernel))) (by decide +kernel)
theorem xd_X5_restingOnFoot : xD yX5_restingOnFoot 0 := by decide +kernel
theorem im_X5_damageOfAll : Cond.instanceMethod yX5_damageOfAll ∈ xT := xT_in (in_tbl (List.mem_of_getElem? (i := 469) (by decide +kernel))) (by decide +kernel)
theorem sl_X5_damageOfAll : Cond.selects RX5 yX5_damageOfAll yX5_damageOfAll ∈ xT := xT_in (in_tbl (List.mem_of_getElem? (i := 470) (by decide +kernel))) (by decide +kernel)
theorem lk_X6_201 : xLinkV RX6 201 yX5_damageOfAll := ⟨xT_in (in_tbl (List.mem_of_getElem? (i := 468) (by decide +kernel))) (by decide +kernel), im_X5_damageOfAll, sl_X5_damageOfAll, ini_RollTown_Town⟩
theorem cd_X5_damageOfAll : Cond.code yX5_damageOfAll cX5_damageOfAll 3 (some .int) ∈ xT := xT_in (in_tbl (List.mem_of_getElem? (i := 471) (by decide +kernel))) (by decide +kernel)
theorem xd_X5_damageOfAll : xD yX5_damageOfAll 0 := by decide +kernel
theorem im_X5_firstMeeting : Cond.instanceMethod yX5_firstMeeting ∈ xT := xT_in (in_tbl (List.mem_of_getElem? (i := 477) (by decide +kernel))) (by decide +kernel)
theorem sl_X5_firstMeeting : Cond.selects RX5 yX5_firstMeeting yX5_firstMeeting ∈ xT := xT_in (in_tbl (List.mem_of_getElem? (i := 478) (by decide +kernel))) (by decide +kernel)
theorem lk_X6_204 : xLinkV RX6 204 yX5_firstMeeting := ⟨xT_in (in_tbl (List.mem_of_getElem? (i := 476) (by decide +kernel))) (by decide +kernel), im_X5_firstMeeting, sl_X5_firstMeeting, ini_RollTown_Town⟩
theorem cd_X5_firstMeeting : Cond.code yX5_firstMeeting cX5_firstMeeting 3 (some .int) ∈ xT := xT_in (in_tbl (List.mem_of_getElem? (i := 479) (by decide +kernel))) (by decide +kernel)
theorem xd_X5_firstMeeting : xD yX5_firstMeeting 1 := by decide +kernel
theorem co_X6_207 : Cond.constant RX6 207 (-1000004) ∈ xT := xT_in (in_tbl (List.mem_of_getElem? (i := 480) (by decide +kernel))) (by decide +kernel)
theorem lk_X6_356 : xLinkV RX6 356 yX4_isStanding := ⟨xT_in (in_tbl (List.mem_of_getElem? (i := 489) (by decide +kernel))) (by decide +kernel), im_X4_isStanding, sl_X4_isStanding, ini_RollTown_Thing⟩
theorem im_X6_isTooLateToRoll : Cond.instanceMethod yX6_isTooLateToRoll ∈ xT := xT_in (in_tbl (List.mem_of_getElem? (i := 492) (by decide +kernel))) (by decide +kernel)
theorem sl_X6_isTooLateToRoll : Cond.selects RX6 yX6_isTooLateToRoll yX6_isTooLateToRoll ∈ xT := xT_in (in_sel (List.mem_of_getElem? (i := 6) (by decide +kernel))) (by decide +kernel)
theorem lk_X6_250 : xLinkV RX6 250 yX6_isTooLateToRoll := ⟨xT_in (in_tbl (List.mem_of_getElem? (i := 490) (by decide +kernel))) (by decide +kernel), im_X6_isTooLateToRoll, sl_X6_isTooLateToRoll, ini_RollTown⟩
theorem cd_X6_isTooLateToRoll : Cond.code yX6_isTooLateToRoll cX6_isTooLateToRoll 1 (some .boolean) ∈ xT := xT_in (in_tbl (List.mem_of_getElem? (i := 493) (by decide +kernel))) (by decide +kernel)
theorem xd_X6_isTooLateToRoll : xD yX6_isTooLateToRoll 0 := by decide +kernel
theorem im_X6_againstRoll : Cond.instanceMethod yX6_againstRoll ∈ xT := xT_in (in_tbl (List.mem_of_getElem? (i := 487) (by decide +kernel))) (by decide +kernel)
theorem sl_X6_againstRoll : Cond.selects RX6 yX6_againstRoll yX6_againstRoll ∈ xT := xT_in (in_sel (List.mem_of_getElem? (i := 5) (by decide +kernel))) (by decide +kernel)
theorem lk_X6_208 : xLinkV RX6 208 yX6_againstRoll := ⟨xT_in (in_tbl (List.mem_of_getElem? (i := 485) (by decide +kernel))) (by decide +kernel), im_X6_againstRoll, sl_X6_againstRoll, ini_RollTown⟩
theorem cd_X6_againstRoll : Cond.code yX6_againstRoll cX6_againstRoll 3 (some .int) ∈ xT := xT_in (in_tbl (List.mem_of_getElem? (i := 488) (by decide +kernel))) (by decide +kernel)
theorem xd_X6_againstRoll : xD yX6_againstRoll 1 := by decide +kernel
theorem fl_X6_32 : Cond.fieldLink RX6 32 "RollTown" "roll" "LRollTown$Roll;" ∈ xT := xT_in (in_tbl (List.mem_of_getElem? (i := 229) (by decide +kernel))) (by decide +kernel)
theorem im_X2_run : Cond.instanceMethod yX2_run ∈ xT := xT_in (in_tbl (List.mem_of_getElem? (i := 495) (by decide +kernel))) (by decide +kernel)
theorem sl_X2_run : Cond.selects RX2 yX2_run yX2_run ∈ xT := xT_in (in_tbl (List.mem_of_getElem? (i := 496) (by decide +kernel))) (by decide +kernel)
theorem lk_X6_211 : xLinkV RX6 211 yX2_run := ⟨xT_in (in_tbl (List.mem_of_getElem? (i := 494) (by decide +kernel))) (by decide +kernel), im_X2_run, sl_X2_run, ini_RollTown_Roll⟩
theorem cd_X2_run : Cond.code yX2_run cX2_run 3 none ∈ xT := xT_in (in_tbl (List.mem_of_getElem? (i := 497) (by decide +kernel))) (by decide +kernel)
theorem xd_X2_run : xD yX2_run 2 := by decide +kernel
theorem im_X2_goesStill : Cond.instanceMethod yX2_goesStill ∈ xT := xT_in (in_tbl (List.mem_of_getElem? (i := 507) (by decide +kernel))) (by decide +kernel)
theorem sl_X2_goesStill : Cond.selects RX2 yX2_goesStill yX2_goesStill ∈ xT := xT_in (in_tbl (List.mem_of_getElem? (i := 508) (by decide +kernel))) (by decide +kernel)
theorem lk_X6_215 : xLinkV RX6 215 yX2_goesStill := ⟨xT_in (in_tbl (List.mem_of_getElem? (i := 506) (by decide +kernel))) (by decide +kernel), im_X2_goesStill, sl_X2_goesStill, ini_RollTown_Roll⟩
theorem cd_X2_goesStill : Cond.code yX2_goesStill cX2_goesStill 1 (some .boolean) ∈ xT := xT_in (in_tbl (List.mem_of_getElem? (i := 509) (by decide +kernel))) (by decide +kernel)
theorem xd_X2_goesStill : xD yX2_goesStill 0 := by decide +kernel
theorem im_X2_place : Cond.instanceMethod yX2_place ∈ xT := xT_in (in_tbl (List.mem_of_getElem? (i := 511) (by decide +kernel))) (by decide +kernel)
theorem sl_X2_place : Cond.selects RX2 yX2_place yX2_place ∈ xT := xT_in (in_tbl (List.mem_of_getElem? (i := 512) (by decide +kernel))) (by decide +kernel)
theorem lk_X6_218 : xLinkV RX6 218 yX2_place := ⟨xT_in (in_tbl (List.mem_of_getElem? (i := 510) (by decide +kernel))) (by decide +kernel), im_X2_place, sl_X2_place, ini_RollTown_Roll⟩
theorem cd_X2_place : Cond.code yX2_place cX2_place 1 (some .int) ∈ xT := xT_in (in_tbl (List.mem_of_getElem? (i := 513) (by decide +kernel))) (by decide +kernel)
theorem xd_X2_place : xD yX2_place 0 := by decide +kernel
theorem fl_X6_221 : Cond.fieldLink RX6 221 "RollTown$Roll" "took" "I" ∈ xT := xT_in (in_tbl (List.mem_of_getElem? (i := 139) (by decide +kernel))) (by decide +kernel)
theorem fl_X6_224 : Cond.fieldLink RX6 224 "RollTown$Roll" "fastest" "I" ∈ xT := xT_in (in_tbl (List.mem_of_getElem? (i := 141) (by decide +kernel))) (by decide +kernel)
theorem fl_X6_227 : Cond.fieldLink RX6 227 "RollTown$Roll" "cells" "I" ∈ xT := xT_in (in_tbl (List.mem_of_getElem? (i := 143) (by decide +kernel))) (by decide +kernel)
theorem im_X6_rollWithGround : Cond.instanceMethod yX6_rollWithGround ∈ xT := xT_in (in_tbl (List.mem_of_getElem? (i := 532) (by decide +kernel))) (by decide +kernel)
theorem sl_X6_rollWithGround : Cond.selects RX6 yX6_rollWithGround yX6_rollWithGround ∈ xT := xT_in (in_sel (List.mem_of_getElem? (i := 7) (by decide +kernel))) (by decide +kernel)
theorem lk_X6_230 : xLinkV RX6 230 yX6_rollWithGround := ⟨xT_in (in_tbl (List.mem_of_getElem? (i := 530) (by decide +kernel))) (by decide +kernel), im_X6_rollWithGround, sl_X6_rollWithGround, ini_RollTown⟩
theorem cd_X6_rollWithGround : Cond.code yX6_rollWithGround cX6_rollWithGround 5 none ∈ xT := xT_in (in_tbl (List.mem_of_getElem? (i := 533) (by decide +kernel))) (by decide +kernel)
theorem xd_X6_rollWithGround : xD yX6_rollWithGround 3 := by decide +kernel
theorem im_X2_endsOn : Cond.instanceMethod yX2_endsOn ∈ xT := xT_in (in_tbl (List.mem_of_getElem? (i := 535) (by decide +kernel))) (by decide +kernel)
theorem sl_X2_endsOn : Cond.selects RX2 yX2_endsOn yX2_endsOn ∈ xT := xT_in (in_tbl (List.mem_of_getElem? (i := 536) (by decide +kernel))) (by decide +kernel)
theorem lk_X6_234 : xLinkV RX6 234 yX2_endsOn := ⟨xT_in (in_tbl (List.mem_of_getElem? (i := 534) (by decide +kernel))) (by decide +kernel), im_X2_endsOn, sl_X2_endsOn, ini_RollTown_Roll⟩
theorem cd_X2_endsOn : Cond.code yX2_endsOn cX2_endsOn 2 (some .boolean) ∈ xT := xT_in (in_tbl (List.mem_of_getElem? (i := 537) (by decide +kernel))) (by decide +kernel)
theorem xd_X2_endsOn : xD yX2_endsOn 1 := by decide +kernel
theorem im_X6_isTooLateToWait : Cond.instanceMethod yX6_isTooLateToWait ∈ xT := xT_in (in_tbl (List.mem_of_getElem? (i := 556) (by decide +kernel))) (by decide +kernel)
theorem sl_X6_isTooLateToWait : Cond.selects RX6 yX6_isTooLateToWait yX6_isTooLateToWait ∈ xT := xT_in (in_sel (List.mem_of_getElem? (i := 8) (by decide +kernel))) (by decide +kernel)
theorem lk_X6_237 : xLinkV RX6 237 yX6_isTooLateToWait := ⟨xT_in (in_tbl (List.mem_of_getElem? (i := 554) (by decide +kernel))) (by decide +kernel), im_X6_isTooLateToWait, sl_X6_isTooLateToWait, ini_RollTown⟩
theorem cd_X6_isTooLateToWait : Cond.code yX6_isTooLateToWait cX6_isTooLateToWait 1 (some .boolean) ∈ xT := xT_in (in_tbl (List.mem_of_getElem? (i := 557) (by decide +kernel))) (by decide +kernel)
theorem xd_X6_isTooLateToWait : xD yX6_isTooLateToWait 0 := by decide +kernel
theorem fl_X6_26 : Cond.fieldLink RX6 26 "RollTown" "trial" "LRollTown$Town;" ∈ xT := xT_in (in_tbl (List.mem_of_getElem? (i := 228) (by decide +kernel))) (by decide +kernel)
theorem lk_X6_240 : xLinkV RX6 240 yX5_passMinute := ⟨xT_in (in_tbl (List.mem_of_getElem? (i := 558) (by decide +kernel))) (by decide +kernel), im_X5_passMinute, sl_X5_passMinute, ini_RollTown_Town⟩
theorem st_X6_standTogether : Cond.static yX6_standTogether ∈ xT := xT_in (in_tbl (List.mem_of_getElem? (i := 564) (by decide +kernel))) (by decide +kernel)
theorem lk_X6_243 : xLinkS RX6 243 yX6_standTogether := ⟨Or.inl (xT_in (in_tbl (List.mem_of_getElem? (i := 563) (by decide +kernel))) (by decide +kernel)), st_X6_standTogether, ini_RollTown⟩
theorem cd_X6_standTogether : Cond.code yX6_standTogether cX6_standTogether 2 (some .boolean) ∈ xT := xT_in (in_tbl (List.mem_of_getElem? (i := 565) (by decide +kernel))) (by decide +kernel)
theorem xd_X6_standTogether : xD yX6_standTogether 2 := by decide +kernel
theorem im_X5_clearAllBut : Cond.instanceMethod yX5_clearAllBut ∈ xT := xT_in (in_tbl (List.mem_of_getElem? (i := 567) (by decide +kernel))) (by decide +kernel)
theorem sl_X5_clearAllBut : Cond.selects RX5 yX5_clearAllBut yX5_clearAllBut ∈ xT := xT_in (in_tbl (List.mem_of_getElem? (i := 568) (by decide +kernel))) (by decide +kernel)
theorem lk_X6_247 : xLinkV RX6 247 yX5_clearAllBut := ⟨xT_in (in_tbl (List.mem_of_getElem? (i := 566) (by decide +kernel))) (by decide +kernel), im_X5_clearAllBut, sl_X5_clearAllBut, ini_RollTown_Town⟩
theorem cd_X5_clearAllBut : Cond.code yX5_clearAllBut cX5_clearAllBut 3 none ∈ xT := xT_in (in_tbl (List.mem_of_getElem? (i := 569) (by decide +kernel))) (by decide +kernel)
theorem xd_X5_clearAllBut : xD yX5_clearAllBut 1 := by decide +kernel
theorem lk_X6_253 : xLinkS RX6 253 yX6_has := ⟨Or.inl (xT_in (in_tbl (List.mem_of_getElem? (i := 574) (by decide +kernel))) (by decide +kernel)), st_X6_has, ini_RollTown⟩
theorem im_X6_isSetOfThings : Cond.instanceMethod yX6_isSetOfThings ∈ xT := xT_in (in_tbl (List.mem_of_getElem? (i := 581) (by decide +kernel))) (by decide +kernel)
theorem sl_X6_isSetOfThings : Cond.selects RX6 yX6_isSetOfThings yX6_isSetOfThings ∈ xT := xT_in (in_sel (List.mem_of_getElem? (i := 9) (by decide +kernel))) (by decide +kernel)
theorem lk_X6_257 : xLinkV RX6 257 yX6_isSetOfThings := ⟨xT_in (in_tbl (List.mem_of_getElem? (i := 579) (by decide +kernel))) (by decide +kernel), im_X6_isSetOfThings, sl_X6_isSetOfThings, ini_RollTown⟩
theorem cd_X6_isSetOfThings : Cond.code yX6_isSetOfThings cX6_isSetOfThings 2 (some .boolean) ∈ xT := xT_in (in_tbl (List.mem_of_getElem? (i := 582) (by decide +kernel))) (by decide +kernel)
theorem xd_X6_isSetOfThings : xD yX6_isSetOfThings 1 := by decide +kernel
theorem fl_X6_39 : Cond.fieldLink RX6 39 "RollTown" "packing" "LRollTown$Packing;" ∈ xT := xT_in (in_tbl (List.mem_of_getElem? (i := 230) (by decide +kernel))) (by decide +kernel)
theorem im_X0_leftSide : Cond.instanceMethod yX0_leftSide ∈ xT := xT_in (in_tbl (List.mem_of_getElem? (i := 584) (by decide +kernel))) (by decide +kernel)
theorem sl_X0_leftSide : Cond.selects RX0 yX0_leftSide yX0_leftSide ∈ xT := xT_in (in_tbl (List.mem_of_getElem? (i := 585) (by decide +kernel))) (by decide +kernel)
theorem lk_X6_260 : xLinkV RX6 260 yX0_leftSide := ⟨xT_in (in_tbl (List.mem_of_getElem? (i := 583) (by decide +kernel))) (by decide +kernel), im_X0_leftSide, sl_X0_leftSide, ini_RollTown_Packing⟩
theorem cd_X0_leftSide : Cond.code yX0_leftSide cX0_leftSide 7 (some .int) ∈ xT := xT_in (in_tbl (List.mem_of_getElem? (i := 586) (by decide +kernel))) (by decide +kernel)
theorem xd_X0_leftSide : xD yX0_leftSide 2 := by decide +kernel
theorem lk_X6_264 : xLinkV RX6 264 yX0_difference := ⟨xT_in (in_tbl (List.mem_of_getElem? (i := 602) (by decide +kernel))) (by decide +kernel), im_X0_difference, sl_X0_difference, ini_RollTown_Packing⟩
theorem im_X5_heaviest : Cond.instanceMethod yX5_heaviest ∈ xT := xT_in (in_tbl (List.mem_of_getElem? (i := 608) (by decide +kernel))) (by decide +kernel)
theorem sl_X5_heaviest : Cond.selects RX5 yX5_heaviest yX5_heaviest ∈ xT := xT_in (in_tbl (List.mem_of_getElem? (i := 609) (by decide +kernel))) (by decide +kernel)
theorem lk_X6_268 : xLinkV RX6 268 yX5_heaviest := ⟨xT_in (in_tbl (List.mem_of_getElem? (i := 607) (by decide +kernel))) (by decide +kernel), im_X5_heaviest, sl_X5_heaviest, ini_RollTown_Town⟩
theorem cd_X5_heaviest : Cond.code yX5_heaviest cX5_heaviest 4 (some .int) ∈ xT := xT_in (in_tbl (List.mem_of_getElem? (i := 610) (by decide +kernel))) (by decide +kernel)
theorem xd_X5_heaviest : xD yX5_heaviest 1 := by decide +kernel
theorem im_X0_fewestDrums : Cond.instanceMethod yX0_fewestDrums ∈ xT := xT_in (in_tbl (List.mem_of_getElem? (i := 612) (by decide +kernel))) (by decide +kernel)
theorem sl_X0_fewestDrums : Cond.selects RX0 yX0_fewestDrums yX0_fewestDrums ∈ xT := xT_in (in_tbl (List.mem_of_getElem? (i := 613) (by decide +kernel))) (by decide +kernel)
theorem lk_X6_271 : xLinkV RX6 271 yX0_fewestDrums := ⟨xT_in (in_tbl (List.mem_of_getElem? (i := 611) (by decide +kernel))) (by decide +kernel), im_X0_fewestDrums, sl_X0_fewestDrums, ini_RollTown_Packing⟩
theorem cd_X0_fewestDrums : Cond.code yX0_fewestDrums cX0_fewestDrums 5 (some .int) ∈ xT := xT_in (in_tbl (List.mem_of_getElem? (i := 614) (by decide +kernel))) (by decide +kernel)
theorem xd_X0_fewestDrums : xD yX0_fewestDrums 3 := by decide +kernel
theorem fl_X6_43 : Cond.fieldLink RX6 43 "RollTown" "queue" "[I" ∈ xT := xT_in (in_tbl (List.mem_of_getElem? (i := 231) (by decide +kernel))) (by decide +kernel)
theorem im_X4_wheelTime : Cond.instanceMethod yX4_wheelTime ∈ xT := xT_in (in_tbl (List.mem_of_getElem? (i := 634) (by decide +kernel))) (by decide +kernel)
theorem sl_X4_wheelTime : Cond.selects RX4 yX4_wheelTime yX4_wheelTime ∈ xT := xT_in (in_tbl (List.mem_of_getElem? (i := 635) (by decide +kernel))) (by decide +kernel)
theorem lk_X6_284 : xLinkV RX6 284 yX4_wheelTime := ⟨xT_in (in_tbl (List.mem_of_getElem? (i := 633) (by decide +kernel))) (by decide +kernel), im_X4_wheelTime, sl_X4_wheelTime, ini_RollTown_Thing⟩
theorem cd_X4_wheelTime : Cond.code yX4_wheelTime cX4_wheelTime 1 (some .int) ∈ xT := xT_in (in_tbl (List.mem_of_getElem? (i := 636) (by decide +kernel))) (by decide +kernel)
theorem xd_X4_wheelTime : xD yX4_wheelTime 0 := by decide +kernel
theorem im_X6_lineUpByNumber : Cond.instanceMethod yX6_lineUpByNumber ∈ xT := xT_in (in_tbl (List.mem_of_getElem? (i := 627) (by decide +kernel))) (by decide +kernel)
theorem sl_X6_lineUpByNumber : Cond.selects RX6 yX6_lineUpByNumber yX6_lineUpByNumber ∈ xT := xT_in (in_sel (List.mem_of_getElem? (i := 12) (by decide +kernel))) (by decide +kernel)
theorem lk_X6_275 : xLinkV RX6 275 yX6_lineUpByNumber := ⟨xT_in (in_tbl (List.mem_of_getElem? (i := 625) (by decide +kernel))) (by decide +kernel), im_X6_lineUpByNumber, sl_X6_lineUpByNumber, ini_RollTown⟩
theorem cd_X6_lineUpByNumber : Cond.code yX6_lineUpByNumber cX6_lineUpByNumber 4 (some .int) ∈ xT := xT_in (in_tbl (List.mem_of_getElem? (i := 628) (by decide +kernel))) (by decide +kernel)
theorem xd_X6_lineUpByNumber : xD yX6_lineUpByNumber 0 := by decide +kernel
theorem im_X6_waitsOfQueue : Cond.instanceMethod yX6_waitsOfQueue ∈ xT := xT_in (in_tbl (List.mem_of_getElem? (i := 631) (by decide +kernel))) (by decide +kernel)
theorem sl_X6_waitsOfQueue : Cond.selects RX6 yX6_waitsOfQueue yX6_waitsOfQueue ∈ xT := xT_in (in_sel (List.mem_of_getElem? (i := 13) (by decide +kernel))) (by decide +kernel)
theorem lk_X6_278 : xLinkV RX6 278 yX6_waitsOfQueue := ⟨xT_in (in_tbl (List.mem_of_getElem? (i := 629) (by decide +kernel))) (by decide +kernel), im_X6_waitsOfQueue, sl_X6_waitsOfQueue, ini_RollTown⟩
theorem cd_X6_waitsOfQueue : Cond.code yX6_waitsOfQueue cX6_waitsOfQueue 5 (some .int) ∈ xT := xT_in (in_tbl (List.mem_of_getElem? (i := 632) (by decide +kernel))) (by decide +kernel)
theorem xd_X6_waitsOfQueue : xD yX6_waitsOfQueue 1 := by decide +kernel
theorem im_X6_lineUpByWeight : Cond.instanceMethod yX6_lineUpByWeight ∈ xT := xT_in (in_tbl (List.mem_of_getElem? (i := 643) (by decide +kernel))) (by decide +kernel)
theorem sl_X6_lineUpByWeight : Cond.selects RX6 yX6_lineUpByWeight yX6_lineUpByWeight ∈ xT := xT_in (in_sel (List.mem_of_getElem? (i := 14) (by decide +kernel))) (by decide +kernel)
theorem lk_X6_281 : xLinkV RX6 281 yX6_lineUpByWeight := ⟨xT_in (in_tbl (List.mem_of_getElem? (i := 641) (by decide +kernel))) (by decide +kernel), im_X6_lineUpByWeight, sl_X6_lineUpByWeight, ini_RollTown⟩
theorem cd_X6_lineUpByWeight : Cond.code yX6_lineUpByWeight cX6_lineUpByWeight 5 (some .int) ∈ xT := xT_in (in_tbl (List.mem_of_getElem? (i := 644) (by decide +kernel))) (by decide +kernel)
theorem xd_X6_lineUpByWeight : xD yX6_lineUpByWeight 0 := by decide +kernel
theorem im_X5_draw : Cond.instanceMethod yX5_draw ∈ xT := xT_in (in_tbl (List.mem_of_getElem? (i := 658) (by decide +kernel))) (by decide +kernel)
theorem sl_X5_draw : Cond.selects RX5 yX5_draw yX5_draw ∈ xT := xT_in (in_tbl (List.mem_of_getElem? (i := 659) (by decide +kernel))) (by decide +kernel)
theorem lk_X6_287 : xLinkV RX6 287 yX5_draw := ⟨xT_in (in_tbl (List.mem_of_getElem? (i := 657) (by decide +kernel))) (by decide +kernel), im_X5_draw, sl_X5_draw, ini_RollTown_Town⟩
theorem cd_X5_draw : Cond.code yX5_draw cX5_draw 1 (some .int) ∈ xT := xT_in (in_tbl (List.mem_of_getElem? (i := 660) (by decide +kernel))) (by decide +kernel)
theorem xd_X5_draw : xD yX5_draw 0 := by decide +kernel
theorem lk_X6_290 : xLinkV RX6 290 yX2_runFrom := ⟨xT_in (in_tbl (List.mem_of_getElem? (i := 662) (by decide +kernel))) (by decide +kernel), im_X2_runFrom, sl_X2_runFrom, ini_RollTown_Roll⟩
theorem fl_X6_294 : Cond.fieldLink RX6 294 "RollTown$Town" "z" "I" ∈ xT := xT_in (in_tbl (List.mem_of_getElem? (i := 109) (by decide +kernel))) (by decide +kernel)
theorem fl_X6_50 : Cond.fieldLink RX6 50 "RollTown" "tape" "LRollTown$Reader;" ∈ xT := xT_in (in_tbl (List.mem_of_getElem? (i := 232) (by decide +kernel))) (by decide +kernel)
theorem fl_X6_297 : Cond.fieldLink RX6 297 "RollTown$Reader" "size" "I" ∈ xT := xT_in (in_tbl (List.mem_of_getElem? (i := 171) (by decide +kernel))) (by decide +kernel)
theorem im_X1_addByte : Cond.instanceMethod yX1_addByte ∈ xT := xT_in (in_tbl (List.mem_of_getElem? (i := 676) (by decide +kernel))) (by decide +kernel)
theorem sl_X1_addByte : Cond.selects RX1 yX1_addByte yX1_addByte ∈ xT := xT_in (in_tbl (List.mem_of_getElem? (i := 677) (by decide +kernel))) (by decide +kernel)
theorem lk_X6_298 : xLinkV RX6 298 yX1_addByte := ⟨xT_in (in_tbl (List.mem_of_getElem? (i := 675) (by decide +kernel))) (by decide +kernel), im_X1_addByte, sl_X1_addByte, ini_RollTown_Reader⟩
theorem cd_X1_addByte : Cond.code yX1_addByte cX1_addByte 2 none ∈ xT := xT_in (in_tbl (List.mem_of_getElem? (i := 678) (by decide +kernel))) (by decide +kernel)
theorem xd_X1_addByte : xD yX1_addByte 1 := by decide +kernel
theorem im_X1_readText : Cond.instanceMethod yX1_readText ∈ xT := xT_in (in_tbl (List.mem_of_getElem? (i := 688) (by decide +kernel))) (by decide +kernel)
theorem sl_X1_readText : Cond.selects RX1 yX1_readText yX1_readText ∈ xT := xT_in (in_tbl (List.mem_of_getElem? (i := 689) (by decide +kernel))) (by decide +kernel)
theorem lk_X6_301 : xLinkV RX6 301 yX1_readText := ⟨xT_in (in_tbl (List.mem_of_getElem? (i := 687) (by decide +kernel))) (by decide +kernel), im_X1_readText, sl_X1_readText, ini_RollTown_Reader⟩
theorem cd_X1_readText : Cond.code yX1_readText cX1_readText 3 (some .int) ∈ xT := xT_in (in_tbl (List.mem_of_getElem? (i := 690) (by decide +kernel))) (by decide +kernel)
theorem xd_X1_readText : xD yX1_readText 1 := by decide +kernel
theorem fl_X6_305 : Cond.fieldLink RX6 305 "RollTown$Town" "spots" "[I" ∈ xT := xT_in (in_tbl (List.mem_of_getElem? (i := 94) (by decide +kernel))) (by decide +kernel)
theorem im_X4_isOfKind : Cond.instanceMethod yX4_isOfKind ∈ xT := xT_in (in_tbl (List.mem_of_getElem? (i := 838) (by decide +kernel))) (by decide +kernel)
theorem sl_X4_isOfKind : Cond.selects RX4 yX4_isOfKind yX4_isOfKind ∈ xT := xT_in (in_tbl (List.mem_of_getElem? (i := 839) (by decide +kernel))) (by decide +kernel)
theorem lk_X6_309 : xLinkV RX6 309 yX4_isOfKind := ⟨xT_in (in_tbl (List.mem_of_getElem? (i := 837) (by decide +kernel))) (by decide +kernel), im_X4_isOfKind, sl_X4_isOfKind, ini_RollTown_Thing⟩
theorem cd_X4_isOfKind : Cond.code yX4_isOfKind cX4_isOfKind 4 (some .boolean) ∈ xT := xT_in (in_tbl (List.mem_of_getElem? (i := 840) (by decide +kernel))) (by decide +kernel)
theorem xd_X4_isOfKind : xD yX4_isOfKind 1 := by decide +kernel
theorem co_X6_312 : Cond.constant RX6 312 (-1000003) ∈ xT := xT_in (in_tbl (List.mem_of_getElem? (i := 843) (by decide +kernel))) (by decide +kernel)
theorem co_X6_308 : Cond.constant RX6 308 (-1000006) ∈ xT := xT_in (in_tbl (List.mem_of_getElem? (i := 836) (by decide +kernel))) (by decide +kernel)
theorem st_X6_isSheet : Cond.static yX6_isSheet ∈ xT := xT_in (in_tbl (List.mem_of_getElem? (i := 849) (by decide +kernel))) (by decide +kernel)
theorem lk_X6_313 : xLinkS RX6 313 yX6_isSheet := ⟨Or.inl (xT_in (in_tbl (List.mem_of_getElem? (i := 848) (by decide +kernel))) (by decide +kernel)), st_X6_isSheet, ini_RollTown⟩
theorem cd_X6_isSheet : Cond.code yX6_isSheet cX6_isSheet 1 (some .boolean) ∈ xT := xT_in (in_tbl (List.mem_of_getElem? (i := 850) (by decide +kernel))) (by decide +kernel)
theorem xd_X6_isSheet : xD yX6_isSheet 1 := by decide +kernel
theorem fl_X6_56 : Cond.fieldLink RX6 56 "RollTown" "sheets" "[LRollTown$Sheet;" ∈ xT := xT_in (in_tbl (List.mem_of_getElem? (i := 233) (by decide +kernel))) (by decide +kernel)
theorem im_X3_begin : Cond.instanceMethod yX3_begin ∈ xT := xT_in (in_tbl (List.mem_of_getElem? (i := 853) (by decide +kernel))) (by decide +kernel)
theorem sl_X3_begin : Cond.selects RX3 yX3_begin yX3_begin ∈ xT := xT_in (in_tbl (List.mem_of_getElem? (i := 854) (by decide +kernel))) (by decide +kernel)
theorem ini_RollTown_Sheet : Cond.initialized RX3 ∈ xT := xT_in (in_tbl (List.mem_of_getElem? (i := 7) (by decide +kernel))) (by decide +kernel)
theorem lk_X6_317 : xLinkV RX6 317 yX3_begin := ⟨xT_in (in_tbl (List.mem_of_getElem? (i := 852) (by decide +kernel))) (by decide +kernel), im_X3_begin, sl_X3_begin, ini_RollTown_Sheet⟩
theorem cd_X3_begin : Cond.code yX3_begin cX3_begin 4 none ∈ xT := xT_in (in_tbl (List.mem_of_getElem? (i := 855) (by decide +kernel))) (by decide +kernel)
theorem xd_X3_begin : xD yX3_begin 2 := by decide +kernel
theorem fl_X6_320 : Cond.fieldLink RX6 320 "RollTown$Sheet" "size" "I" ∈ xT := xT_in (in_tbl (List.mem_of_getElem? (i := 216) (by decide +kernel))) (by decide +kernel)
theorem co_X6_316 : Cond.constant RX6 316 (-1000007) ∈ xT := xT_in (in_tbl (List.mem_of_getElem? (i := 851) (by decide +kernel))) (by decide +kernel)
theorem im_X3_isMissing : Cond.instanceMethod yX3_isMissing ∈ xT := xT_in (in_tbl (List.mem_of_getElem? (i := 861) (by decide +kernel))) (by decide +kernel)
theorem sl_X3_isMissing : Cond.selects RX3 yX3_isMissing yX3_isMissing ∈ xT := xT_in (in_tbl (List.mem_of_getElem? (i := 862) (by decide +kernel))) (by decide +kernel)
theorem lk_X6_321 : xLinkV RX6 321 yX3_isMissing := ⟨xT_in (in_tbl (List.mem_of_getElem? (i := 860) (by decide +kernel))) (by decide +kernel), im_X3_isMissing, sl_X3_isMissing, ini_RollTown_Sheet⟩
theorem cd_X3_isMissing : Cond.code yX3_isMissing cX3_isMissing 1 (some .boolean) ∈ xT := xT_in (in_tbl (List.mem_of_getElem? (i := 863) (by decide +kernel))) (by decide +kernel)
theorem xd_X3_isMissing : xD yX3_isMissing 0 := by decide +kernel
theorem fl_X6_324 : Cond.fieldLink RX6 324 "RollTown$Sheet" "numbers" "[I" ∈ xT := xT_in (in_tbl (List.mem_of_getElem? (i := 212) (by decide +kernel))) (by decide +kernel)
theorem im_X3_cutToBits : Cond.instanceMethod yX3_cutToBits ∈ xT := xT_in (in_tbl (List.mem_of_getElem? (i := 865) (by decide +kernel))) (by decide +kernel)
theorem sl_X3_cutToBits : Cond.selects RX3 yX3_cutToBits yX3_cutToBits ∈ xT := xT_in (in_tbl (List.mem_of_getElem? (i := 866) (by decide +kernel))) (by decide +kernel)
theorem lk_X6_327 : xLinkV RX6 327 yX3_cutToBits := ⟨xT_in (in_tbl (List.mem_of_getElem? (i := 864) (by decide +kernel))) (by decide +kernel), im_X3_cutToBits, sl_X3_cutToBits, ini_RollTown_Sheet⟩
theorem cd_X3_cutToBits : Cond.code yX3_cutToBits cX3_cutToBits 2 (some .int) ∈ xT := xT_in (in_tbl (List.mem_of_getElem? (i := 867) (by decide +kernel))) (by decide +kernel)
theorem xd_X3_cutToBits : xD yX3_cutToBits 1 := by decide +kernel
theorem fl_X6_330 : Cond.fieldLink RX6 330 "RollTown$Sheet" "bits" "I" ∈ xT := xT_in (in_tbl (List.mem_of_getElem? (i := 214) (by decide +kernel))) (by decide +kernel)
theorem im_X3_hasPart : Cond.instanceMethod yX3_hasPart ∈ xT := xT_in (in_tbl (List.mem_of_getElem? (i := 873) (by decide +kernel))) (by decide +kernel)
theorem sl_X3_hasPart : Cond.selects RX3 yX3_hasPart yX3_hasPart ∈ xT := xT_in (in_tbl (List.mem_of_getElem? (i := 874) (by decide +kernel))) (by decide +kernel)
theorem lk_X6_333 : xLinkV RX6 333 yX3_hasPart := ⟨xT_in (in_tbl (List.mem_of_getElem? (i := 872) (by decide +kernel))) (by decide +kernel), im_X3_hasPart, sl_X3_hasPart, ini_RollTown_Sheet⟩
theorem cd_X3_hasPart : Cond.code yX3_hasPart cX3_hasPart 3 (some .boolean) ∈ xT := xT_in (in_tbl (List.mem_of_getElem? (i := 875) (by decide +kernel))) (by decide +kernel)
theorem xd_X3_hasPart : xD yX3_hasPart 2 := by decide +kernel
theorem lk_X6_336 : xLinkC RX6 336 := ⟨xT_in (in_tbl (List.mem_of_getElem? (i := 876) (by decide +kernel))) (by decide +kernel), na_arraycopy, st_arraycopy, ini_java_lang_System⟩
theorem lk_X6_342 : xLinkM RX6 342 Lib.Math.min.name Lib.Math.min.code 2 := ⟨xT_in (in_tbl (List.mem_of_getElem? (i := 881) (by decide +kernel))) (by decide +kernel), st_Mmin, ini_java_lang_Math, cd_Mmin⟩
theorem fl_X6_16 : Cond.fieldLink RX6 16 "RollTown" "kept" "LRollTown$Town;" ∈ xT := xT_in (in_tbl (List.mem_of_getElem? (i := 225) (by decide +kernel))) (by decide +kernel)
theorem fl_X6_19 : Cond.fieldLink RX6 19 "RollTown" "isKept" "Z" ∈ xT := xT_in (in_tbl (List.mem_of_getElem? (i := 226) (by decide +kernel))) (by decide +kernel)
theorem im_X5_weightOfAll : Cond.instanceMethod yX5_weightOfAll ∈ xT := xT_in (in_tbl (List.mem_of_getElem? (i := 903) (by decide +kernel))) (by decide +kernel)
theorem sl_X5_weightOfAll : Cond.selects RX5 yX5_weightOfAll yX5_weightOfAll ∈ xT := xT_in (in_tbl (List.mem_of_getElem? (i := 904) (by decide +kernel))) (by decide +kernel)
theorem lk_X6_347 : xLinkV RX6 347 yX5_weightOfAll := ⟨xT_in (in_tbl (List.mem_of_getElem? (i := 902) (by decide +kernel))) (by decide +kernel), im_X5_weightOfAll, sl_X5_weightOfAll, ini_RollTown_Town⟩
theorem cd_X5_weightOfAll : Cond.code yX5_weightOfAll cX5_weightOfAll 3 (some .int) ∈ xT := xT_in (in_tbl (List.mem_of_getElem? (i := 905) (by decide +kernel))) (by decide +kernel)
theorem xd_X5_weightOfAll : xD yX5_weightOfAll 0 := by decide +kernel
theorem im_X5_cellsOfStone : Cond.instanceMethod yX5_cellsOfStone ∈ xT := xT_in (in_tbl (List.mem_of_getElem? (i := 907) (by decide +kernel))) (by decide +kernel)
theorem sl_X5_cellsOfStone : Cond.selects RX5 yX5_cellsOfStone yX5_cellsOfStone ∈ xT := xT_in (in_tbl (List.mem_of_getElem? (i := 908) (by decide +kernel))) (by decide +kernel)
theorem lk_X6_350 : xLinkV RX6 350 yX5_cellsOfStone := ⟨xT_in (in_tbl (List.mem_of_getElem? (i := 906) (by decide +kernel))) (by decide +kernel), im_X5_cellsOfStone, sl_X5_cellsOfStone, ini_RollTown_Town⟩
theorem cd_X5_cellsOfStone : Cond.code yX5_cellsOfStone cX5_cellsOfStone 3 (some .int) ∈ xT := xT_in (in_tbl (List.mem_of_getElem? (i := 909) (by decide +kernel))) (by decide +kernel)
theorem xd_X5_cellsOfStone : xD yX5_cellsOfStone 0 := by decide +kernel
theorem im_X5_spotsInUse : Cond.instanceMethod yX5_spotsInUse ∈ xT := xT_in (in_tbl (List.mem_of_getElem? (i := 911) (by decide +kernel))) (by decide +kernel)
theorem sl_X5_spotsInUse : Cond.selects RX5 yX5_spotsInUse yX5_spotsInUse ∈ xT := xT_in (in_tbl (List.mem_of_getElem? (i := 912) (by decide +kernel))) (by decide +kernel)
theorem lk_X6_353 : xLinkV RX6 353 yX5_spotsInUse := ⟨xT_in (in_tbl (List.mem_of_getElem? (i := 910) (by decide +kernel))) (by decide +kernel), im_X5_spotsInUse, sl_X5_spotsInUse, ini_RollTown_Town⟩
theorem cd_X5_spotsInUse : Cond.code yX5_spotsInUse cX5_spotsInUse 3 (some .int) ∈ xT := xT_in (in_tbl (List.mem_of_getElem? (i := 913) (by decide +kernel))) (by decide +kernel)
theorem xd_X5_spotsInUse : xD yX5_spotsInUse 0 := by decide +kernel
theorem fl_X7_19 : Cond.fieldLink RX7 19 "RollTownModel" "statuses" "[I" ∈ xT := xT_in (in_tbl (List.mem_of_getElem? (i := 927) (by decide +kernel))) (by decide +kernel)
theorem co_X7_43 : Cond.constant RX7 43 (-1000001) ∈ xT := xT_in (in_tbl (List.mem_of_getElem? (i := 1019) (by decide +kernel))) (by decide +kernel)
theorem cl_X7_44 : Cond.constantLong RX7 44 (30) ∈ xT := xT_in (in_tbl (List.mem_of_getElem? (i := 1013) (by decide +kernel))) (by decide +kernel)
theorem st_X7_in : Cond.static yX7_in ∈ xT := xT_in (in_tbl (List.mem_of_getElem? (i := 1015) (by decide +kernel))) (by decide +kernel)
theorem ini_RollTownModel : Cond.initialized RX7 ∈ xT := xT_in (in_tbl (List.mem_of_getElem? (i := 8) (by decide +kernel))) (by decide +kernel)
theorem lk_X7_46 : xLinkS RX7 46 yX7_in := ⟨Or.inl (xT_in (in_tbl (List.mem_of_getElem? (i := 1014) (by decide +kernel))) (by decide +kernel)), st_X7_in, ini_RollTownModel⟩
theorem cd_X7_in : Cond.code yX7_in cX7_in 6 (some .boolean) ∈ xT := xT_in (in_tbl (List.mem_of_getElem? (i := 1016) (by decide +kernel))) (by decide +kernel)
theorem xd_X7_in : xD yX7_in 3 := by decide +kernel
theorem fl_X7_7 : Cond.fieldLink RX7 7 "RollTownModel" "s" "[I" ∈ xT := xT_in (in_tbl (List.mem_of_getElem? (i := 924) (by decide +kernel))) (by decide +kernel)
theorem ix_1 : ix (1 : Int32) = 1 := by decide +kernel
theorem ix_4 : ix (4 : Int32) = 4 := by decide +kernel
theorem co_X7_50 : Cond.constant RX7 50 (1103515245) ∈ xT := xT_in (in_tbl (List.mem_of_getElem? (i := 1300) (by decide +kernel))) (by decide +kernel)
theorem fl_X7_16 : Cond.fieldLink RX7 16 "RollTownModel" "other" "[I" ∈ xT := xT_in (in_tbl (List.mem_of_getElem? (i := 926) (by decide +kernel))) (by decide +kernel)
theorem st_X7_isCell : Cond.static yX7_isCell ∈ xT := xT_in (in_tbl (List.mem_of_getElem? (i := 1011) (by decide +kernel))) (by decide +kernel)
theorem lk_X7_51 : xLinkS RX7 51 yX7_isCell := ⟨Or.inl (xT_in (in_tbl (List.mem_of_getElem? (i := 1010) (by decide +kernel))) (by decide +kernel)), st_X7_isCell, ini_RollTownModel⟩
theorem cd_X7_isCell : Cond.code yX7_isCell cX7_isCell 1 (some .boolean) ∈ xT := xT_in (in_tbl (List.mem_of_getElem? (i := 1012) (by decide +kernel))) (by decide +kernel)
theorem xd_X7_isCell : xD yX7_isCell 1 := by decide +kernel
theorem im_X7_finds : Cond.instanceMethod yX7_finds ∈ xT := xT_in (in_tbl (List.mem_of_getElem? (i := 1022) (by decide +kernel))) (by decide +kernel)
theorem sl_X7_finds : Cond.selects RX7 yX7_finds yX7_finds ∈ xT := xT_in (in_sel (List.mem_of_getElem? (i := 29) (by decide +kernel))) (by decide +kernel)
theorem lk_X7_59 : xLinkV RX7 59 yX7_finds := ⟨xT_in (in_tbl (List.mem_of_getElem? (i := 1020) (by decide +kernel))) (by decide +kernel), im_X7_finds, sl_X7_finds, ini_RollTownModel⟩
theorem cd_X7_finds : Cond.code yX7_finds cX7_finds 2 (some .int) ∈ xT := xT_in (in_tbl (List.mem_of_getElem? (i := 1023) (by decide +kernel))) (by decide +kernel)
theorem xd_X7_finds : xD yX7_finds 1 := by decide +kernel
theorem cl_X7_55 : Cond.constantLong RX7 55 (-9) ∈ xT := xT_in (in_tbl (List.mem_of_getElem? (i := 1017) (by decide +kernel))) (by decide +kernel)
theorem cl_X7_57 : Cond.constantLong RX7 57 (9) ∈ xT := xT_in (in_tbl (List.mem_of_getElem? (i := 1018) (by decide +kernel))) (by decide +kernel)
theorem cl_X7_63 : Cond.constantLong RX7 63 (4) ∈ xT := xT_in (in_tbl (List.mem_of_getElem? (i := 1028) (by decide +kernel))) (by decide +kernel)
theorem cl_X7_65 : Cond.constantLong RX7 65 (59) ∈ xT := xT_in (in_tbl (List.mem_of_getElem? (i := 1033) (by decide +kernel))) (by decide +kernel)
theorem ix_2 : ix (2 : Int32) = 2 := by decide +kernel
theorem ix_3 : ix (3 : Int32) = 3 := by decide +kernel
theorem cl_X7_67 : Cond.constantLong RX7 67 (9999) ∈ xT := xT_in (in_tbl (List.mem_of_getElem? (i := 1038) (by decide +kernel))) (by decide +kernel)
theorem im_X7_isShut : Cond.instanceMethod yX7_isShut ∈ xT := xT_in (in_tbl (List.mem_of_getElem? (i := 1041) (by decide +kernel))) (by decide +kernel)
theorem sl_X7_isShut : Cond.selects RX7 yX7_isShut yX7_isShut ∈ xT := xT_in (in_sel (List.mem_of_getElem? (i := 30) (by decide +kernel))) (by decide +kernel)
theorem lk_X7_69 : xLinkV RX7 69 yX7_isShut := ⟨xT_in (in_tbl (List.mem_of_getElem? (i := 1039) (by decide +kernel))) (by decide +kernel), im_X7_isShut, sl_X7_isShut, ini_RollTownModel⟩
theorem cd_X7_isShut : Cond.code yX7_isShut cX7_isShut 3 (some .boolean) ∈ xT := xT_in (in_tbl (List.mem_of_getElem? (i := 1042) (by decide +kernel))) (by decide +kernel)
theorem xd_X7_isShut : xD yX7_isShut 1 := by decide +kernel
theorem st_X7_at : Cond.static yX7_at ∈ xT := xT_in (in_tbl (List.mem_of_getElem? (i := 1058) (by decide +kernel))) (by decide +kernel)
theorem lk_X7_72 : xLinkS RX7 72 yX7_at := ⟨Or.inl (xT_in (in_tbl (List.mem_of_getElem? (i := 1057) (by decide +kernel))) (by decide +kernel)), st_X7_at, ini_RollTownModel⟩
theorem cd_X7_at : Cond.code yX7_at cX7_at 2 (some .int) ∈ xT := xT_in (in_tbl (List.mem_of_getElem? (i := 1059) (by decide +kernel))) (by decide +kernel)
theorem xd_X7_at : xD yX7_at 2 := by decide +kernel
theorem cl_X7_76 : Cond.constantLong RX7 76 (6) ∈ xT := xT_in (in_tbl (List.mem_of_getElem? (i := 1050) (by decide +kernel))) (by decide +kernel)
theorem cl_X7_78 : Cond.constantLong RX7 78 (99) ∈ xT := xT_in (in_tbl (List.mem_of_getElem? (i := 1051) (by decide +kernel))) (by decide +kernel)
theorem st_X7_isPart : Cond.static yX7_isPart ∈ xT := xT_in (in_tbl (List.mem_of_getElem? (i := 1048) (by decide +kernel))) (by decide +kernel)
theorem lk_X7_80 : xLinkS RX7 80 yX7_isPart := ⟨Or.inl (xT_in (in_tbl (List.mem_of_getElem? (i := 1047) (by decide +kernel))) (by decide +kernel)), st_X7_isPart, ini_RollTownModel⟩
theorem cd_X7_isPart : Cond.code yX7_isPart cX7_isPart 2 (some .boolean) ∈ xT := xT_in (in_tbl (List.mem_of_getElem? (i := 1049) (by decide +kernel))) (by decide +kernel)
theorem xd_X7_isPart : xD yX7_isPart 2 := by decide +kernel
theorem im_X7_newThing : Cond.instanceMethod yX7_newThing ∈ xT := xT_in (in_tbl (List.mem_of_getElem? (i := 1055) (by decide +kernel))) (by decide +kernel)
theorem sl_X7_newThing : Cond.selects RX7 yX7_newThing yX7_newThing ∈ xT := xT_in (in_sel (List.mem_of_getElem? (i := 31) (by decide +kernel))) (by decide +kernel)
theorem lk_X7_85 : xLinkV RX7 85 yX7_newThing := ⟨xT_in (in_tbl (List.mem_of_getElem? (i := 1053) (by decide +kernel))) (by decide +kernel), im_X7_newThing, sl_X7_newThing, ini_RollTownModel⟩
theorem cd_X7_newThing : Cond.code yX7_newThing cX7_newThing 7 (some .int) ∈ xT := xT_in (in_tbl (List.mem_of_getElem? (i := 1056) (by decide +kernel))) (by decide +kernel)
theorem xd_X7_newThing : xD yX7_newThing 4 := by decide +kernel
theorem co_X7_84 : Cond.constant RX7 84 (-1000002) ∈ xT := xT_in (in_tbl (List.mem_of_getElem? (i := 1052) (by decide +kernel))) (by decide +kernel)
theorem im_X7_its : Cond.instanceMethod yX7_its ∈ xT := xT_in (in_tbl (List.mem_of_getElem? (i := 1071) (by decide +kernel))) (by decide +kernel)
theorem sl_X7_its : Cond.selects RX7 yX7_its yX7_its ∈ xT := xT_in (in_sel (List.mem_of_getElem? (i := 33) (by decide +kernel))) (by decide +kernel)
theorem lk_X7_89 : xLinkV RX7 89 yX7_its := ⟨xT_in (in_tbl (List.mem_of_getElem? (i := 1069) (by decide +kernel))) (by decide +kernel), im_X7_its, sl_X7_its, ini_RollTownModel⟩
theorem cd_X7_its : Cond.code yX7_its cX7_its 3 (some .int) ∈ xT := xT_in (in_tbl (List.mem_of_getElem? (i := 1072) (by decide +kernel))) (by decide +kernel)
theorem xd_X7_its : xD yX7_its 2 := by decide +kernel
theorem im_X7_isThing : Cond.instanceMethod yX7_isThing ∈ xT := xT_in (in_tbl (List.mem_of_getElem? (i := 1066) (by decide +kernel))) (by decide +kernel)
theorem sl_X7_isThing : Cond.selects RX7 yX7_isThing yX7_isThing ∈ xT := xT_in (in_sel (List.mem_of_getElem? (i := 32) (by decide +kernel))) (by decide +kernel)
theorem lk_X7_92 : xLinkV RX7 92 yX7_isThing := ⟨xT_in (in_tbl (List.mem_of_getElem? (i := 1064) (by decide +kernel))) (by decide +kernel), im_X7_isThing, sl_X7_isThing, ini_RollTownModel⟩
theorem cd_X7_isThing : Cond.code yX7_isThing cX7_isThing 2 (some .boolean) ∈ xT := xT_in (in_tbl (List.mem_of_getElem? (i := 1067) (by decide +kernel))) (by decide +kernel)
theorem xd_X7_isThing : xD yX7_isThing 1 := by decide +kernel
theorem cl_X7_95 : Cond.constantLong RX7 95 (8) ∈ xT := xT_in (in_tbl (List.mem_of_getElem? (i := 1068) (by decide +kernel))) (by decide +kernel)
theorem im_X7_top : Cond.instanceMethod yX7_top ∈ xT := xT_in (in_tbl (List.mem_of_getElem? (i := 1075) (by decide +kernel))) (by decide +kernel)
theorem sl_X7_top : Cond.selects RX7 yX7_top yX7_top ∈ xT := xT_in (in_sel (List.mem_of_getElem? (i := 34) (by decide +kernel))) (by decide +kernel)
theorem lk_X7_97 : xLinkV RX7 97 yX7_top := ⟨xT_in (in_tbl (List.mem_of_getElem? (i := 1073) (by decide +kernel))) (by decide +kernel), im_X7_top, sl_X7_top, ini_RollTownModel⟩
theorem cd_X7_top : Cond.code yX7_top cX7_top 3 (some .int) ∈ xT := xT_in (in_tbl (List.mem_of_getElem? (i := 1076) (by decide +kernel))) (by decide +kernel)
theorem xd_X7_top : xD yX7_top 1 := by decide +kernel
theorem im_X7_drag : Cond.instanceMethod yX7_drag ∈ xT := xT_in (in_tbl (List.mem_of_getElem? (i := 1091) (by decide +kernel))) (by decide +kernel)
theorem sl_X7_drag : Cond.selects RX7 yX7_drag yX7_drag ∈ xT := xT_in (in_sel (List.mem_of_getElem? (i := 36) (by decide +kernel))) (by decide +kernel)
theorem lk_X7_103 : xLinkV RX7 103 yX7_drag := ⟨xT_in (in_tbl (List.mem_of_getElem? (i := 1089) (by decide +kernel))) (by decide +kernel), im_X7_drag, sl_X7_drag, ini_RollTownModel⟩
theorem cd_X7_drag : Cond.code yX7_drag cX7_drag 5 (some .int) ∈ xT := xT_in (in_tbl (List.mem_of_getElem? (i := 1092) (by decide +kernel))) (by decide +kernel)
theorem xd_X7_drag : xD yX7_drag 2 := by decide +kernel
theorem im_X7_gain : Cond.instanceMethod yX7_gain ∈ xT := xT_in (in_tbl (List.mem_of_getElem? (i := 1087) (by decide +kernel))) (by decide +kernel)
theorem sl_X7_gain : Cond.selects RX7 yX7_gain yX7_gain ∈ xT := xT_in (in_sel (List.mem_of_getElem? (i := 35) (by decide +kernel))) (by decide +kernel)
theorem lk_X7_100 : xLinkV RX7 100 yX7_gain := ⟨xT_in (in_tbl (List.mem_of_getElem? (i := 1085) (by decide +kernel))) (by decide +kernel), im_X7_gain, sl_X7_gain, ini_RollTownModel⟩
theorem cd_X7_gain : Cond.code yX7_gain cX7_gain 4 (some .int) ∈ xT := xT_in (in_tbl (List.mem_of_getElem? (i := 1088) (by decide +kernel))) (by decide +kernel)
theorem xd_X7_gain : xD yX7_gain 2 := by decide +kernel
theorem im_X7_isReady : Cond.instanceMethod yX7_isReady ∈ xT := xT_in (in_tbl (List.mem_of_getElem? (i := 1099) (by decide +kernel))) (by decide +kernel)
theorem sl_X7_isReady : Cond.selects RX7 yX7_isReady yX7_isReady ∈ xT := xT_in (in_sel (List.mem_of_getElem? (i := 37) (by decide +kernel))) (by decide +kernel)
theorem lk_X7_106 : xLinkV RX7 106 yX7_isReady := ⟨xT_in (in_tbl (List.mem_of_getElem? (i := 1097) (by decide +kernel))) (by decide +kernel), im_X7_isReady, sl_X7_isReady, ini_RollTownModel⟩
theorem cd_X7_isReady : Cond.code yX7_isReady cX7_isReady 2 (some .boolean) ∈ xT := xT_in (in_tbl (List.mem_of_getElem? (i := 1100) (by decide +kernel))) (by decide +kernel)
theorem xd_X7_isReady : xD yX7_isReady 1 := by decide +kernel
theorem im_X7_letsGo : Cond.instanceMethod yX7_letsGo ∈ xT := xT_in (in_tbl (List.mem_of_getElem? (i := 1104) (by decide +kernel))) (by decide +kernel)
theorem sl_X7_letsGo : Cond.selects RX7 yX7_letsGo yX7_letsGo ∈ xT := xT_in (in_sel (List.mem_of_getElem? (i := 38) (by decide +kernel))) (by decide +kernel)
theorem lk_X7_110 : xLinkV RX7 110 yX7_letsGo := ⟨xT_in (in_tbl (List.mem_of_getElem? (i := 1102) (by decide +kernel))) (by decide +kernel), im_X7_letsGo, sl_X7_letsGo, ini_RollTownModel⟩
theorem cd_X7_letsGo : Cond.code yX7_letsGo cX7_letsGo 3 none ∈ xT := xT_in (in_tbl (List.mem_of_getElem? (i := 1105) (by decide +kernel))) (by decide +kernel)
theorem xd_X7_letsGo : xD yX7_letsGo 2 := by decide +kernel
theorem co_X7_109 : Cond.constant RX7 109 (-1000005) ∈ xT := xT_in (in_tbl (List.mem_of_getElem? (i := 1101) (by decide +kernel))) (by decide +kernel)
theorem im_X7_isOnLane : Cond.instanceMethod yX7_isOnLane ∈ xT := xT_in (in_tbl (List.mem_of_getElem? (i := 1133) (by decide +kernel))) (by decide +kernel)
theorem sl_X7_isOnLane : Cond.selects RX7 yX7_isOnLane yX7_isOnLane ∈ xT := xT_in (in_sel (List.mem_of_getElem? (i := 43) (by decide +kernel))) (by decide +kernel)
theorem lk_X7_114 : xLinkV RX7 114 yX7_isOnLane := ⟨xT_in (in_tbl (List.mem_of_getElem? (i := 1131) (by decide +kernel))) (by decide +kernel), im_X7_isOnLane, sl_X7_isOnLane, ini_RollTownModel⟩
theorem cd_X7_isOnLane : Cond.code yX7_isOnLane cX7_isOnLane 2 (some .boolean) ∈ xT := xT_in (in_tbl (List.mem_of_getElem? (i := 1134) (by decide +kernel))) (by decide +kernel)
theorem xd_X7_isOnLane : xD yX7_isOnLane 1 := by decide +kernel
theorem fl_X7_117 : Cond.fieldLink RX7 117 "RollTownModel" "met" "I" ∈ xT := xT_in (in_tbl (List.mem_of_getElem? (i := 929) (by decide +kernel))) (by decide +kernel)
theorem fl_X7_121 : Cond.fieldLink RX7 121 "RollTownModel" "outs" "I" ∈ xT := xT_in (in_tbl (List.mem_of_getElem? (i := 930) (by decide +kernel))) (by decide +kernel)
theorem im_X7_meets : Cond.instanceMethod yX7_meets ∈ xT := xT_in (in_tbl (List.mem_of_getElem? (i := 1129) (by decide +kernel))) (by decide +kernel)
theorem sl_X7_meets : Cond.selects RX7 yX7_meets yX7_meets ∈ xT := xT_in (in_sel (List.mem_of_getElem? (i := 42) (by decide +kernel))) (by decide +kernel)
theorem lk_X7_127 : xLinkV RX7 127 yX7_meets := ⟨xT_in (in_tbl (List.mem_of_getElem? (i := 1127) (by decide +kernel))) (by decide +kernel), im_X7_meets, sl_X7_meets, ini_RollTownModel⟩
theorem cd_X7_meets : Cond.code yX7_meets cX7_meets 6 (some .int) ∈ xT := xT_in (in_tbl (List.mem_of_getElem? (i := 1130) (by decide +kernel))) (by decide +kernel)
theorem xd_X7_meets : xD yX7_meets 1 := by decide +kernel
theorem im_X7_rolls : Cond.instanceMethod yX7_rolls ∈ xT := xT_in (in_tbl (List.mem_of_getElem? (i := 1125) (by decide +kernel))) (by decide +kernel)
theorem sl_X7_rolls : Cond.selects RX7 yX7_rolls yX7_rolls ∈ xT := xT_in (in_sel (List.mem_of_getElem? (i := 41) (by decide +kernel))) (by decide +kernel)
theorem lk_X7_124 : xLinkV RX7 124 yX7_rolls := ⟨xT_in (in_tbl (List.mem_of_getElem? (i := 1123) (by decide +kernel))) (by decide +kernel), im_X7_rolls, sl_X7_rolls, ini_RollTownModel⟩
theorem cd_X7_rolls : Cond.code yX7_rolls cX7_rolls 7 none ∈ xT := xT_in (in_tbl (List.mem_of_getElem? (i := 1126) (by decide +kernel))) (by decide +kernel)
theorem xd_X7_rolls : xD yX7_rolls 2 := by decide +kernel
theorem cl_X7_130 : Cond.constantLong RX7 130 (120) ∈ xT := xT_in (in_tbl (List.mem_of_getElem? (i := 1114) (by decide +kernel))) (by decide +kernel)
theorem im_X7_isTooLate : Cond.instanceMethod yX7_isTooLate ∈ xT := xT_in (in_tbl (List.mem_of_getElem? (i := 1117) (by decide +kernel))) (by decide +kernel)
theorem sl_X7_isTooLate : Cond.selects RX7 yX7_isTooLate yX7_isTooLate ∈ xT := xT_in (in_sel (List.mem_of_getElem? (i := 39) (by decide +kernel))) (by decide +kernel)
theorem lk_X7_132 : xLinkV RX7 132 yX7_isTooLate := ⟨xT_in (in_tbl (List.mem_of_getElem? (i := 1115) (by decide +kernel))) (by decide +kernel), im_X7_isTooLate, sl_X7_isTooLate, ini_RollTownModel⟩
theorem cd_X7_isTooLate : Cond.code yX7_isTooLate cX7_isTooLate 2 (some .boolean) ∈ xT := xT_in (in_tbl (List.mem_of_getElem? (i := 1118) (by decide +kernel))) (by decide +kernel)
theorem xd_X7_isTooLate : xD yX7_isTooLate 1 := by decide +kernel
theorem im_X7_minute : Cond.instanceMethod yX7_minute ∈ xT := xT_in (in_tbl (List.mem_of_getElem? (i := 1121) (by decide +kernel))) (by decide +kernel)
theorem sl_X7_minute : Cond.selects RX7 yX7_minute yX7_minute ∈ xT := xT_in (in_sel (List.mem_of_getElem? (i := 40) (by decide +kernel))) (by decide +kernel)
theorem lk_X7_135 : xLinkV RX7 135 yX7_minute := ⟨xT_in (in_tbl (List.mem_of_getElem? (i := 1119) (by decide +kernel))) (by decide +kernel), im_X7_minute, sl_X7_minute, ini_RollTownModel⟩
theorem cd_X7_minute : Cond.code yX7_minute cX7_minute 2 none ∈ xT := xT_in (in_tbl (List.mem_of_getElem? (i := 1122) (by decide +kernel))) (by decide +kernel)
theorem xd_X7_minute : xD yX7_minute 0 := by decide +kernel
theorem cl_X7_138 : Cond.constantLong RX7 138 (3) ∈ xT := xT_in (in_tbl (List.mem_of_getElem? (i := 1139) (by decide +kernel))) (by decide +kernel)
theorem im_X7_areIn : Cond.instanceMethod yX7_areIn ∈ xT := xT_in (in_tbl (List.mem_of_getElem? (i := 1142) (by decide +kernel))) (by decide +kernel)
theorem sl_X7_areIn : Cond.selects RX7 yX7_areIn yX7_areIn ∈ xT := xT_in (in_sel (List.mem_of_getElem? (i := 44) (by decide +kernel))) (by decide +kernel)
theorem lk_X7_140 : xLinkV RX7 140 yX7_areIn := ⟨xT_in (in_tbl (List.mem_of_getElem? (i := 1140) (by decide +kernel))) (by decide +kernel), im_X7_areIn, sl_X7_areIn, ini_RollTownModel⟩
theorem cd_X7_areIn : Cond.code yX7_areIn cX7_areIn 4 (some .int) ∈ xT := xT_in (in_tbl (List.mem_of_getElem? (i := 1143) (by decide +kernel))) (by decide +kernel)
theorem xd_X7_areIn : xD yX7_areIn 1 := by decide +kernel
theorem im_X7_onCell : Cond.instanceMethod yX7_onCell ∈ xT := xT_in (in_tbl (List.mem_of_getElem? (i := 1150) (by decide +kernel))) (by decide +kernel)
theorem sl_X7_onCell : Cond.selects RX7 yX7_onCell yX7_onCell ∈ xT := xT_in (in_sel (List.mem_of_getElem? (i := 45) (by decide +kernel))) (by decide +kernel)
theorem lk_X7_143 : xLinkV RX7 143 yX7_onCell := ⟨xT_in (in_tbl (List.mem_of_getElem? (i := 1148) (by decide +kernel))) (by decide +kernel), im_X7_onCell, sl_X7_onCell, ini_RollTownModel⟩
theorem cd_X7_onCell : Cond.code yX7_onCell cX7_onCell 4 (some .int) ∈ xT := xT_in (in_tbl (List.mem_of_getElem? (i := 1151) (by decide +kernel))) (by decide +kernel)
theorem xd_X7_onCell : xD yX7_onCell 1 := by decide +kernel
theorem cl_X7_146 : Cond.constantLong RX7 146 (200) ∈ xT := xT_in (in_tbl (List.mem_of_getElem? (i := 1156) (by decide +kernel))) (by decide +kernel)
theorem im_X7_puts : Cond.instanceMethod yX7_puts ∈ xT := xT_in (in_tbl (List.mem_of_getElem? (i := 1159) (by decide +kernel))) (by decide +kernel)
theorem sl_X7_puts : Cond.selects RX7 yX7_puts yX7_puts ∈ xT := xT_in (in_sel (List.mem_of_getElem? (i := 46) (by decide +kernel))) (by decide +kernel)
theorem lk_X7_148 : xLinkV RX7 148 yX7_puts := ⟨xT_in (in_tbl (List.mem_of_getElem? (i := 1157) (by decide +kernel))) (by decide +kernel), im_X7_puts, sl_X7_puts, ini_RollTownModel⟩
theorem cd_X7_puts : Cond.code yX7_puts cX7_puts 2 none ∈ xT := xT_in (in_tbl (List.mem_of_getElem? (i := 1160) (by decide +kernel))) (by decide +kernel)
theorem xd_X7_puts : xD yX7_puts 0 := by decide +kernel
theorem im_X7_putsBack : Cond.instanceMethod yX7_putsBack ∈ xT := xT_in (in_tbl (List.mem_of_getElem? (i := 1167) (by decide +kernel))) (by decide +kernel)
theorem sl_X7_putsBack : Cond.selects RX7 yX7_putsBack yX7_putsBack ∈ xT := xT_in (in_sel (List.mem_of_getElem? (i := 48) (by decide +kernel))) (by decide +kernel)
theorem lk_X7_154 : xLinkV RX7 154 yX7_putsBack := ⟨xT_in (in_tbl (List.mem_of_getElem? (i := 1165) (by decide +kernel))) (by decide +kernel), im_X7_putsBack, sl_X7_putsBack, ini_RollTownModel⟩
theorem cd_X7_putsBack : Cond.code yX7_putsBack cX7_putsBack 2 none ∈ xT := xT_in (in_tbl (List.mem_of_getElem? (i := 1168) (by decide +kernel))) (by decide +kernel)
theorem xd_X7_putsBack : xD yX7_putsBack 0 := by decide +kernel
theorem im_X7_sumOf : Cond.instanceMethod yX7_sumOf ∈ xT := xT_in (in_tbl (List.mem_of_getElem? (i := 1163) (by decide +kernel))) (by decide +kernel)
theorem sl_X7_sumOf : Cond.selects RX7 yX7_sumOf yX7_sumOf ∈ xT := xT_in (in_sel (List.mem_of_getElem? (i := 47) (by decide +kernel))) (by decide +kernel)
theorem lk_X7_151 : xLinkV RX7 151 yX7_sumOf := ⟨xT_in (in_tbl (List.mem_of_getElem? (i := 1161) (by decide +kernel))) (by decide +kernel), im_X7_sumOf, sl_X7_sumOf, ini_RollTownModel⟩
theorem cd_X7_sumOf : Cond.code yX7_sumOf cX7_sumOf 4 (some .int) ∈ xT := xT_in (in_tbl (List.mem_of_getElem? (i := 1164) (by decide +kernel))) (by decide +kernel)
theorem xd_X7_sumOf : xD yX7_sumOf 1 := by decide +kernel
theorem co_X7_157 : Cond.constant RX7 157 (-1000004) ∈ xT := xT_in (in_tbl (List.mem_of_getElem? (i := 1173) (by decide +kernel))) (by decide +kernel)
theorem fl_X7_158 : Cond.fieldLink RX7 158 "RollTownModel" "minutesTaken" "I" ∈ xT := xT_in (in_tbl (List.mem_of_getElem? (i := 933) (by decide +kernel))) (by decide +kernel)
theorem fl_X7_161 : Cond.fieldLink RX7 161 "RollTownModel" "fastest" "I" ∈ xT := xT_in (in_tbl (List.mem_of_getElem? (i := 934) (by decide +kernel))) (by decide +kernel)
theorem fl_X7_164 : Cond.fieldLink RX7 164 "RollTownModel" "seenSet" "I" ∈ xT := xT_in (in_tbl (List.mem_of_getElem? (i := 935) (by decide +kernel))) (by decide +kernel)
theorem fl_X7_167 : Cond.fieldLink RX7 167 "RollTownModel" "endHow" "I" ∈ xT := xT_in (in_tbl (List.mem_of_getElem? (i := 932) (by decide +kernel))) (by decide +kernel)
theorem fl_X7_170 : Cond.fieldLink RX7 170 "RollTownModel" "endCell" "I" ∈ xT := xT_in (in_tbl (List.mem_of_getElem? (i := 931) (by decide +kernel))) (by decide +kernel)
theorem im_X7_alone : Cond.instanceMethod yX7_alone ∈ xT := xT_in (in_tbl (List.mem_of_getElem? (i := 1184) (by decide +kernel))) (by decide +kernel)
theorem sl_X7_alone : Cond.selects RX7 yX7_alone yX7_alone ∈ xT := xT_in (in_sel (List.mem_of_getElem? (i := 50) (by decide +kernel))) (by decide +kernel)
theorem lk_X7_173 : xLinkV RX7 173 yX7_alone := ⟨xT_in (in_tbl (List.mem_of_getElem? (i := 1182) (by decide +kernel))) (by decide +kernel), im_X7_alone, sl_X7_alone, ini_RollTownModel⟩
theorem cd_X7_alone : Cond.code yX7_alone cX7_alone 6 none ∈ xT := xT_in (in_tbl (List.mem_of_getElem? (i := 1185) (by decide +kernel))) (by decide +kernel)
theorem xd_X7_alone : xD yX7_alone 2 := by decide +kernel
theorem im_X7_rollWrong : Cond.instanceMethod yX7_rollWrong ∈ xT := xT_in (in_tbl (List.mem_of_getElem? (i := 1180) (by decide +kernel))) (by decide +kernel)
theorem sl_X7_rollWrong : Cond.selects RX7 yX7_rollWrong yX7_rollWrong ∈ xT := xT_in (in_sel (List.mem_of_getElem? (i := 49) (by decide +kernel))) (by decide +kernel)
theorem lk_X7_176 : xLinkV RX7 176 yX7_rollWrong := ⟨xT_in (in_tbl (List.mem_of_getElem? (i := 1178) (by decide +kernel))) (by decide +kernel), im_X7_rollWrong, sl_X7_rollWrong, ini_RollTownModel⟩
theorem cd_X7_rollWrong : Cond.code yX7_rollWrong cX7_rollWrong 2 (some .int) ∈ xT := xT_in (in_tbl (List.mem_of_getElem? (i := 1181) (by decide +kernel))) (by decide +kernel)
theorem xd_X7_rollWrong : xD yX7_rollWrong 1 := by decide +kernel
theorem im_X7_isQuiet : Cond.instanceMethod yX7_isQuiet ∈ xT := xT_in (in_tbl (List.mem_of_getElem? (i := 1220) (by decide +kernel))) (by decide +kernel)
theorem sl_X7_isQuiet : Cond.selects RX7 yX7_isQuiet yX7_isQuiet ∈ xT := xT_in (in_sel (List.mem_of_getElem? (i := 51) (by decide +kernel))) (by decide +kernel)
theorem lk_X7_179 : xLinkV RX7 179 yX7_isQuiet := ⟨xT_in (in_tbl (List.mem_of_getElem? (i := 1218) (by decide +kernel))) (by decide +kernel), im_X7_isQuiet, sl_X7_isQuiet, ini_RollTownModel⟩
theorem cd_X7_isQuiet : Cond.code yX7_isQuiet cX7_isQuiet 4 (some .boolean) ∈ xT := xT_in (in_tbl (List.mem_of_getElem? (i := 1221) (by decide +kernel))) (by decide +kernel)
theorem xd_X7_isQuiet : xD yX7_isQuiet 1 := by decide +kernel
theorem im_X7_isRolling : Cond.instanceMethod yX7_isRolling ∈ xT := xT_in (in_tbl (List.mem_of_getElem? (i := 1228) (by decide +kernel))) (by decide +kernel)
theorem sl_X7_isRolling : Cond.selects RX7 yX7_isRolling yX7_isRolling ∈ xT := xT_in (in_sel (List.mem_of_getElem? (i := 52) (by decide +kernel))) (by decide +kernel)
theorem lk_X7_182 : xLinkV RX7 182 yX7_isRolling := ⟨xT_in (in_tbl (List.mem_of_getElem? (i := 1226) (by decide +kernel))) (by decide +kernel), im_X7_isRolling, sl_X7_isRolling, ini_RollTownModel⟩
theorem cd_X7_isRolling : Cond.code yX7_isRolling cX7_isRolling 1 (some .boolean) ∈ xT := xT_in (in_tbl (List.mem_of_getElem? (i := 1229) (by decide +kernel))) (by decide +kernel)
theorem xd_X7_isRolling : xD yX7_isRolling 0 := by decide +kernel
theorem st_X7_has : Cond.static yX7_has ∈ xT := xT_in (in_tbl (List.mem_of_getElem? (i := 1255) (by decide +kernel))) (by decide +kernel)
theorem lk_X7_186 : xLinkS RX7 186 yX7_has := ⟨Or.inl (xT_in (in_tbl (List.mem_of_getElem? (i := 1254) (by decide +kernel))) (by decide +kernel)), st_X7_has, ini_RollTownModel⟩
theorem cd_X7_has : Cond.code yX7_has cX7_has 2 (some .boolean) ∈ xT := xT_in (in_tbl (List.mem_of_getElem? (i := 1256) (by decide +kernel))) (by decide +kernel)
theorem xd_X7_has : xD yX7_has 2 := by decide +kernel
theorem im_X7_weighs : Cond.instanceMethod yX7_weighs ∈ xT := xT_in (in_tbl (List.mem_of_getElem? (i := 1252) (by decide +kernel))) (by decide +kernel)
theorem sl_X7_weighs : Cond.selects RX7 yX7_weighs yX7_weighs ∈ xT := xT_in (in_sel (List.mem_of_getElem? (i := 56) (by decide +kernel))) (by decide +kernel)
theorem lk_X7_189 : xLinkV RX7 189 yX7_weighs := ⟨xT_in (in_tbl (List.mem_of_getElem? (i := 1250) (by decide +kernel))) (by decide +kernel), im_X7_weighs, sl_X7_weighs, ini_RollTownModel⟩
theorem cd_X7_weighs : Cond.code yX7_weighs cX7_weighs 4 (some .int) ∈ xT := xT_in (in_tbl (List.mem_of_getElem? (i := 1253) (by decide +kernel))) (by decide +kernel)
theorem xd_X7_weighs : xD yX7_weighs 1 := by decide +kernel
theorem im_X7_offBy : Cond.instanceMethod yX7_offBy ∈ xT := xT_in (in_tbl (List.mem_of_getElem? (i := 1248) (by decide +kernel))) (by decide +kernel)
theorem sl_X7_offBy : Cond.selects RX7 yX7_offBy yX7_offBy ∈ xT := xT_in (in_sel (List.mem_of_getElem? (i := 55) (by decide +kernel))) (by decide +kernel)
theorem lk_X7_192 : xLinkV RX7 192 yX7_offBy := ⟨xT_in (in_tbl (List.mem_of_getElem? (i := 1246) (by decide +kernel))) (by decide +kernel), im_X7_offBy, sl_X7_offBy, ini_RollTownModel⟩
theorem cd_X7_offBy : Cond.code yX7_offBy cX7_offBy 4 (some .int) ∈ xT := xT_in (in_tbl (List.mem_of_getElem? (i := 1249) (by decide +kernel))) (by decide +kernel)
theorem xd_X7_offBy : xD yX7_offBy 2 := by decide +kernel
theorem im_X7_isSet : Cond.instanceMethod yX7_isSet ∈ xT := xT_in (in_tbl (List.mem_of_getElem? (i := 1240) (by decide +kernel))) (by decide +kernel)
theorem sl_X7_isSet : Cond.selects RX7 yX7_isSet yX7_isSet ∈ xT := xT_in (in_sel (List.mem_of_getElem? (i := 53) (by decide +kernel))) (by decide +kernel)
theorem lk_X7_195 : xLinkV RX7 195 yX7_isSet := ⟨xT_in (in_tbl (List.mem_of_getElem? (i := 1238) (by decide +kernel))) (by decide +kernel), im_X7_isSet, sl_X7_isSet, ini_RollTownModel⟩
theorem cd_X7_isSet : Cond.code yX7_isSet cX7_isSet 2 (some .boolean) ∈ xT := xT_in (in_tbl (List.mem_of_getElem? (i := 1241) (by decide +kernel))) (by decide +kernel)
theorem xd_X7_isSet : xD yX7_isSet 1 := by decide +kernel
theorem im_X7_packed : Cond.instanceMethod yX7_packed ∈ xT := xT_in (in_tbl (List.mem_of_getElem? (i := 1244) (by decide +kernel))) (by decide +kernel)
theorem sl_X7_packed : Cond.selects RX7 yX7_packed yX7_packed ∈ xT := xT_in (in_sel (List.mem_of_getElem? (i := 54) (by decide +kernel))) (by decide +kernel)
theorem lk_X7_198 : xLinkV RX7 198 yX7_packed := ⟨xT_in (in_tbl (List.mem_of_getElem? (i := 1242) (by decide +kernel))) (by decide +kernel), im_X7_packed, sl_X7_packed, ini_RollTownModel⟩
theorem cd_X7_packed : Cond.code yX7_packed cX7_packed 7 (some .int) ∈ xT := xT_in (in_tbl (List.mem_of_getElem? (i := 1245) (by decide +kernel))) (by decide +kernel)
theorem xd_X7_packed : xD yX7_packed 1 := by decide +kernel
theorem cl_X7_201 : Cond.constantLong RX7 201 (999) ∈ xT := xT_in (in_tbl (List.mem_of_getElem? (i := 1265) (by decide +kernel))) (by decide +kernel)
theorem fl_X7_22 : Cond.fieldLink RX7 22 "RollTownModel" "filled" "[I" ∈ xT := xT_in (in_tbl (List.mem_of_getElem? (i := 936) (by decide +kernel))) (by decide +kernel)
theorem co_X7_203 : Cond.constant RX7 203 (99999) ∈ xT := xT_in (in_tbl (List.mem_of_getElem? (i := 1266) (by decide +kernel))) (by decide +kernel)
theorem fl_X7_204 : Cond.fieldLink RX7 204 "RollTownModel" "lined" "I" ∈ xT := xT_in (in_tbl (List.mem_of_getElem? (i := 938) (by decide +kernel))) (by decide +kernel)
theorem fl_X7_25 : Cond.fieldLink RX7 25 "RollTownModel" "line" "[I" ∈ xT := xT_in (in_tbl (List.mem_of_getElem? (i := 937) (by decide +kernel))) (by decide +kernel)
theorem im_X7_minutesUp : Cond.instanceMethod yX7_minutesUp ∈ xT := xT_in (in_tbl (List.mem_of_getElem? (i := 1273) (by decide +kernel))) (by decide +kernel)
theorem sl_X7_minutesUp : Cond.selects RX7 yX7_minutesUp yX7_minutesUp ∈ xT := xT_in (in_sel (List.mem_of_getElem? (i := 57) (by decide +kernel))) (by decide +kernel)
theorem lk_X7_207 : xLinkV RX7 207 yX7_minutesUp := ⟨xT_in (in_tbl (List.mem_of_getElem? (i := 1271) (by decide +kernel))) (by decide +kernel), im_X7_minutesUp, sl_X7_minutesUp, ini_RollTownModel⟩
theorem cd_X7_minutesUp : Cond.code yX7_minutesUp cX7_minutesUp 2 (some .int) ∈ xT := xT_in (in_tbl (List.mem_of_getElem? (i := 1274) (by decide +kernel))) (by decide +kernel)
theorem xd_X7_minutesUp : xD yX7_minutesUp 1 := by decide +kernel
theorem im_X7_findLine : Cond.instanceMethod yX7_findLine ∈ xT := xT_in (in_tbl (List.mem_of_getElem? (i := 1281) (by decide +kernel))) (by decide +kernel)
theorem sl_X7_findLine : Cond.selects RX7 yX7_findLine yX7_findLine ∈ xT := xT_in (in_sel (List.mem_of_getElem? (i := 58) (by decide +kernel))) (by decide +kernel)
theorem lk_X7_210 : xLinkV RX7 210 yX7_findLine := ⟨xT_in (in_tbl (List.mem_of_getElem? (i := 1279) (by decide +kernel))) (by decide +kernel), im_X7_findLine, sl_X7_findLine, ini_RollTownModel⟩
theorem cd_X7_findLine : Cond.code yX7_findLine cX7_findLine 3 none ∈ xT := xT_in (in_tbl (List.mem_of_getElem? (i := 1282) (by decide +kernel))) (by decide +kernel)
theorem xd_X7_findLine : xD yX7_findLine 0 := by decide +kernel
theorem cl_X7_213 : Cond.constantLong RX7 213 (20) ∈ xT := xT_in (in_tbl (List.mem_of_getElem? (i := 1295) (by decide +kernel))) (by decide +kernel)
theorem im_X7_draw : Cond.instanceMethod yX7_draw ∈ xT := xT_in (in_tbl (List.mem_of_getElem? (i := 1298) (by decide +kernel))) (by decide +kernel)
theorem sl_X7_draw : Cond.selects RX7 yX7_draw yX7_draw ∈ xT := xT_in (in_sel (List.mem_of_getElem? (i := 59) (by decide +kernel))) (by decide +kernel)
theorem lk_X7_215 : xLinkV RX7 215 yX7_draw := ⟨xT_in (in_tbl (List.mem_of_getElem? (i := 1296) (by decide +kernel))) (by decide +kernel), im_X7_draw, sl_X7_draw, ini_RollTownModel⟩
theorem cd_X7_draw : Cond.code yX7_draw cX7_draw 1 (some .int) ∈ xT := xT_in (in_tbl (List.mem_of_getElem? (i := 1299) (by decide +kernel))) (by decide +kernel)
theorem xd_X7_draw : xD yX7_draw 0 := by decide +kernel
theorem fl_X7_219 : Cond.fieldLink RX7 219 "RollTownModel" "taped" "I" ∈ xT := xT_in (in_tbl (List.mem_of_getElem? (i := 940) (by decide +kernel))) (by decide +kernel)
theorem fl_X7_28 : Cond.fieldLink RX7 28 "RollTownModel" "tape" "[I" ∈ xT := xT_in (in_tbl (List.mem_of_getElem? (i := 939) (by decide +kernel))) (by decide +kernel)
theorem cl_X7_222 : Cond.constantLong RX7 222 (97) ∈ xT := xT_in (in_tbl (List.mem_of_getElem? (i := 1332) (by decide +kernel))) (by decide +kernel)
theorem cl_X7_224 : Cond.constantLong RX7 224 (122) ∈ xT := xT_in (in_tbl (List.mem_of_getElem? (i := 1333) (by decide +kernel))) (by decide +kernel)
theorem cl_X7_226 : Cond.constantLong RX7 226 (48) ∈ xT := xT_in (in_tbl (List.mem_of_getElem? (i := 1337) (by decide +kernel))) (by decide +kernel)
theorem cl_X7_228 : Cond.constantLong RX7 228 (57) ∈ xT := xT_in (in_tbl (List.mem_of_getElem? (i := 1338) (by decide +kernel))) (by decide +kernel)
theorem fl_X7_230 : Cond.fieldLink RX7 230 "RollTownModel" "to" "I" ∈ xT := xT_in (in_tbl (List.mem_of_getElem? (i := 942) (by decide +kernel))) (by decide +kernel)
theorem fl_X7_233 : Cond.fieldLink RX7 233 "RollTownModel" "from" "I" ∈ xT := xT_in (in_tbl (List.mem_of_getElem? (i := 941) (by decide +kernel))) (by decide +kernel)
theorem im_X7_byteAt : Cond.instanceMethod yX7_byteAt ∈ xT := xT_in (in_tbl (List.mem_of_getElem? (i := 1327) (by decide +kernel))) (by decide +kernel)
theorem sl_X7_byteAt : Cond.selects RX7 yX7_byteAt yX7_byteAt ∈ xT := xT_in (in_sel (List.mem_of_getElem? (i := 61) (by decide +kernel))) (by decide +kernel)
theorem lk_X7_236 : xLinkV RX7 236 yX7_byteAt := ⟨xT_in (in_tbl (List.mem_of_getElem? (i := 1325) (by decide +kernel))) (by decide +kernel), im_X7_byteAt, sl_X7_byteAt, ini_RollTownModel⟩
theorem cd_X7_byteAt : Cond.code yX7_byteAt cX7_byteAt 2 (some .int) ∈ xT := xT_in (in_tbl (List.mem_of_getElem? (i := 1328) (by decide +kernel))) (by decide +kernel)
theorem xd_X7_byteAt : xD yX7_byteAt 1 := by decide +kernel
theorem st_X7_isLetter : Cond.static yX7_isLetter ∈ xT := xT_in (in_tbl (List.mem_of_getElem? (i := 1330) (by decide +kernel))) (by decide +kernel)
theorem lk_X7_239 : xLinkS RX7 239 yX7_isLetter := ⟨Or.inl (xT_in (in_tbl (List.mem_of_getElem? (i := 1329) (by decide +kernel))) (by decide +kernel)), st_X7_isLetter, ini_RollTownModel⟩
theorem cd_X7_isLetter : Cond.code yX7_isLetter cX7_isLetter 1 (some .boolean) ∈ xT := xT_in (in_tbl (List.mem_of_getElem? (i := 1331) (by decide +kernel))) (by decide +kernel)
theorem xd_X7_isLetter : xD yX7_isLetter 1 := by decide +kernel
theorem st_X7_isDigit : Cond.static yX7_isDigit ∈ xT := xT_in (in_tbl (List.mem_of_getElem? (i := 1335) (by decide +kernel))) (by decide +kernel)
theorem lk_X7_242 : xLinkS RX7 242 yX7_isDigit := ⟨Or.inl (xT_in (in_tbl (List.mem_of_getElem? (i := 1334) (by decide +kernel))) (by decide +kernel)), st_X7_isDigit, ini_RollTownModel⟩
theorem cd_X7_isDigit : Cond.code yX7_isDigit cX7_isDigit 1 (some .boolean) ∈ xT := xT_in (in_tbl (List.mem_of_getElem? (i := 1336) (by decide +kernel))) (by decide +kernel)
theorem xd_X7_isDigit : xD yX7_isDigit 1 := by decide +kernel
theorem fl_X7_245 : Cond.fieldLink RX7 245 "RollTownModel" "isWrong" "Z" ∈ xT := xT_in (in_tbl (List.mem_of_getElem? (i := 944) (by decide +kernel))) (by decide +kernel)
theorem im_X7_token : Cond.instanceMethod yX7_token ∈ xT := xT_in (in_tbl (List.mem_of_getElem? (i := 1323) (by decide +kernel))) (by decide +kernel)
theorem sl_X7_token : Cond.selects RX7 yX7_token yX7_token ∈ xT := xT_in (in_sel (List.mem_of_getElem? (i := 60) (by decide +kernel))) (by decide +kernel)
theorem lk_X7_249 : xLinkV RX7 249 yX7_token := ⟨xT_in (in_tbl (List.mem_of_getElem? (i := 1321) (by decide +kernel))) (by decide +kernel), im_X7_token, sl_X7_token, ini_RollTownModel⟩
theorem cd_X7_token : Cond.code yX7_token cX7_token 3 none ∈ xT := xT_in (in_tbl (List.mem_of_getElem? (i := 1324) (by decide +kernel))) (by decide +kernel)
theorem xd_X7_token : xD yX7_token 0 := by decide +kernel
theorem cl_X7_252 : Cond.constantLong RX7 252 (36028797018963967) ∈ xT := xT_in (in_tbl (List.mem_of_getElem? (i := 1351) (by decide +kernel))) (by decide +kernel)
theorem cl_X7_254 : Cond.constantLong RX7 254 (32) ∈ xT := xT_in (in_tbl (List.mem_of_getElem? (i := 1352) (by decide +kernel))) (by decide +kernel)
theorem fl_X7_256 : Cond.fieldLink RX7 256 "RollTownModel" "value" "I" ∈ xT := xT_in (in_tbl (List.mem_of_getElem? (i := 943) (by decide +kernel))) (by decide +kernel)
theorem im_X7_needs : Cond.instanceMethod yX7_needs ∈ xT := xT_in (in_tbl (List.mem_of_getElem? (i := 1379) (by decide +kernel))) (by decide +kernel)
theorem sl_X7_needs : Cond.selects RX7 yX7_needs yX7_needs ∈ xT := xT_in (in_sel (List.mem_of_getElem? (i := 68) (by decide +kernel))) (by decide +kernel)
theorem lk_X7_259 : xLinkV RX7 259 yX7_needs := ⟨xT_in (in_tbl (List.mem_of_getElem? (i := 1377) (by decide +kernel))) (by decide +kernel), im_X7_needs, sl_X7_needs, ini_RollTownModel⟩
theorem cd_X7_needs : Cond.code yX7_needs cX7_needs 2 none ∈ xT := xT_in (in_tbl (List.mem_of_getElem? (i := 1380) (by decide +kernel))) (by decide +kernel)
theorem xd_X7_needs : xD yX7_needs 1 := by decide +kernel
theorem im_X7_word : Cond.instanceMethod yX7_word ∈ xT := xT_in (in_tbl (List.mem_of_getElem? (i := 1349) (by decide +kernel))) (by decide +kernel)
theorem sl_X7_word : Cond.selects RX7 yX7_word yX7_word ∈ xT := xT_in (in_sel (List.mem_of_getElem? (i := 64) (by decide +kernel))) (by decide +kernel)
theorem lk_X7_263 : xLinkV RX7 263 yX7_word := ⟨xT_in (in_tbl (List.mem_of_getElem? (i := 1347) (by decide +kernel))) (by decide +kernel), im_X7_word, sl_X7_word, ini_RollTownModel⟩
theorem cd_X7_word : Cond.code yX7_word cX7_word 4 (some .long) ∈ xT := xT_in (in_tbl (List.mem_of_getElem? (i := 1350) (by decide +kernel))) (by decide +kernel)
theorem xd_X7_word : xD yX7_word 0 := by decide +kernel
theorem cl_X7_267 : Cond.constantLong RX7 267 (20594117) ∈ xT := xT_in (in_tbl (List.mem_of_getElem? (i := 1353) (by decide +kernel))) (by decide +kernel)
theorem cl_X7_269 : Cond.constantLong RX7 269 (624068) ∈ xT := xT_in (in_tbl (List.mem_of_getElem? (i := 1354) (by decide +kernel))) (by decide +kernel)
theorem cl_X7_271 : Cond.constantLong RX7 271 (20596791) ∈ xT := xT_in (in_tbl (List.mem_of_getElem? (i := 1355) (by decide +kernel))) (by decide +kernel)
theorem cl_X7_273 : Cond.constantLong RX7 273 (71108) ∈ xT := xT_in (in_tbl (List.mem_of_getElem? (i := 1356) (by decide +kernel))) (by decide +kernel)
theorem cl_X7_275 : Cond.constantLong RX7 275 (231045) ∈ xT := xT_in (in_tbl (List.mem_of_getElem? (i := 1357) (by decide +kernel))) (by decide +kernel)
theorem cl_X7_277 : Cond.constantLong RX7 277 (21243335) ∈ xT := xT_in (in_tbl (List.mem_of_getElem? (i := 1362) (by decide +kernel))) (by decide +kernel)
theorem cl_X7_279 : Cond.constantLong RX7 279 (109221477) ∈ xT := xT_in (in_tbl (List.mem_of_getElem? (i := 1363) (by decide +kernel))) (by decide +kernel)
theorem cl_X7_281 : Cond.constantLong RX7 281 (150189) ∈ xT := xT_in (in_tbl (List.mem_of_getElem? (i := 1364) (by decide +kernel))) (by decide +kernel)
theorem cl_X7_283 : Cond.constantLong RX7 283 (605291) ∈ xT := xT_in (in_tbl (List.mem_of_getElem? (i := 1365) (by decide +kernel))) (by decide +kernel)
theorem cl_X7_285 : Cond.constantLong RX7 285 (66949) ∈ xT := xT_in (in_tbl (List.mem_of_getElem? (i := 1366) (by decide +kernel))) (by decide +kernel)
theorem cl_X7_287 : Cond.constantLong RX7 287 (599495) ∈ xT := xT_in (in_tbl (List.mem_of_getElem? (i := 1367) (by decide +kernel))) (by decide +kernel)
theorem cl_X7_289 : Cond.constantLong RX7 289 (2552) ∈ xT := xT_in (in_tbl (List.mem_of_getElem? (i := 1368) (by decide +kernel))) (by decide +kernel)
theorem im_X7_number : Cond.instanceMethod yX7_number ∈ xT := xT_in (in_tbl (List.mem_of_getElem? (i := 1383) (by decide +kernel))) (by decide +kernel)
theorem sl_X7_number : Cond.selects RX7 yX7_number yX7_number ∈ xT := xT_in (in_sel (List.mem_of_getElem? (i := 69) (by decide +kernel))) (by decide +kernel)
theorem lk_X7_291 : xLinkV RX7 291 yX7_number := ⟨xT_in (in_tbl (List.mem_of_getElem? (i := 1381) (by decide +kernel))) (by decide +kernel), im_X7_number, sl_X7_number, ini_RollTownModel⟩
theorem cd_X7_number : Cond.code yX7_number cX7_number 6 none ∈ xT := xT_in (in_tbl (List.mem_of_getElem? (i := 1384) (by decide +kernel))) (by decide +kernel)
theorem xd_X7_number : xD yX7_number 2 := by decide +kernel
theorem fl_X7_293 : Cond.fieldLink RX7 293 "RollTownModel" "low" "I" ∈ xT := xT_in (in_tbl (List.mem_of_getElem? (i := 945) (by decide +kernel))) (by decide +kernel)
theorem cl_X7_296 : Cond.constantLong RX7 296 (655) ∈ xT := xT_in (in_tbl (List.mem_of_getElem? (i := 1385) (by decide +kernel))) (by decide +kernel)
theorem im_X7_perhaps : Cond.instanceMethod yX7_perhaps ∈ xT := xT_in (in_tbl (List.mem_of_getElem? (i := 1388) (by decide +kernel))) (by decide +kernel)
theorem sl_X7_perhaps : Cond.selects RX7 yX7_perhaps yX7_perhaps ∈ xT := xT_in (in_sel (List.mem_of_getElem? (i := 70) (by decide +kernel))) (by decide +kernel)
theorem lk_X7_298 : xLinkV RX7 298 yX7_perhaps := ⟨xT_in (in_tbl (List.mem_of_getElem? (i := 1386) (by decide +kernel))) (by decide +kernel), im_X7_perhaps, sl_X7_perhaps, ini_RollTownModel⟩
theorem cd_X7_perhaps : Cond.code yX7_perhaps cX7_perhaps 5 (some .int) ∈ xT := xT_in (in_tbl (List.mem_of_getElem? (i := 1389) (by decide +kernel))) (by decide +kernel)
theorem xd_X7_perhaps : xD yX7_perhaps 4 := by decide +kernel
theorem fl_X7_302 : Cond.fieldLink RX7 302 "RollTownModel" "high" "I" ∈ xT := xT_in (in_tbl (List.mem_of_getElem? (i := 946) (by decide +kernel))) (by decide +kernel)
theorem im_X7_cells : Cond.instanceMethod yX7_cells ∈ xT := xT_in (in_tbl (List.mem_of_getElem? (i := 1375) (by decide +kernel))) (by decide +kernel)
theorem sl_X7_cells : Cond.selects RX7 yX7_cells yX7_cells ∈ xT := xT_in (in_sel (List.mem_of_getElem? (i := 67) (by decide +kernel))) (by decide +kernel)
theorem lk_X7_305 : xLinkV RX7 305 yX7_cells := ⟨xT_in (in_tbl (List.mem_of_getElem? (i := 1373) (by decide +kernel))) (by decide +kernel), im_X7_cells, sl_X7_cells, ini_RollTownModel⟩
theorem cd_X7_cells : Cond.code yX7_cells cX7_cells 1 none ∈ xT := xT_in (in_tbl (List.mem_of_getElem? (i := 1376) (by decide +kernel))) (by decide +kernel)
theorem xd_X7_cells : xD yX7_cells 0 := by decide +kernel
theorem cl_X7_308 : Cond.constantLong RX7 308 (89) ∈ xT := xT_in (in_tbl (List.mem_of_getElem? (i := 1402) (by decide +kernel))) (by decide +kernel)
theorem cl_X7_310 : Cond.constantLong RX7 310 (631476) ∈ xT := xT_in (in_tbl (List.mem_of_getElem? (i := 1407) (by decide +kernel))) (by decide +kernel)
theorem cl_X7_312 : Cond.constantLong RX7 312 (777297172) ∈ xT := xT_in (in_tbl (List.mem_of_getElem? (i := 1394) (by decide +kernel))) (by decide +kernel)
theorem cl_X7_314 : Cond.constantLong RX7 314 (19378579) ∈ xT := xT_in (in_tbl (List.mem_of_getElem? (i := 1395) (by decide +kernel))) (by decide +kernel)
theorem cl_X7_316 : Cond.constantLong RX7 316 (398382) ∈ xT := xT_in (in_tbl (List.mem_of_getElem? (i := 1396) (by decide +kernel))) (by decide +kernel)
theorem im_X7_groundHere : Cond.instanceMethod yX7_groundHere ∈ xT := xT_in (in_tbl (List.mem_of_getElem? (i := 1345) (by decide +kernel))) (by decide +kernel)
theorem sl_X7_groundHere : Cond.selects RX7 yX7_groundHere yX7_groundHere ∈ xT := xT_in (in_sel (List.mem_of_getElem? (i := 63) (by decide +kernel))) (by decide +kernel)
theorem lk_X7_318 : xLinkV RX7 318 yX7_groundHere := ⟨xT_in (in_tbl (List.mem_of_getElem? (i := 1343) (by decide +kernel))) (by decide +kernel), im_X7_groundHere, sl_X7_groundHere, ini_RollTownModel⟩
theorem cd_X7_groundHere : Cond.code yX7_groundHere cX7_groundHere 3 (some .int) ∈ xT := xT_in (in_tbl (List.mem_of_getElem? (i := 1346) (by decide +kernel))) (by decide +kernel)
theorem xd_X7_groundHere : xD yX7_groundHere 0 := by decide +kernel
theorem im_X7_kindHere : Cond.instanceMethod yX7_kindHere ∈ xT := xT_in (in_tbl (List.mem_of_getElem? (i := 1360) (by decide +kernel))) (by decide +kernel)
theorem sl_X7_kindHere : Cond.selects RX7 yX7_kindHere yX7_kindHere ∈ xT := xT_in (in_sel (List.mem_of_getElem? (i := 65) (by decide +kernel))) (by decide +kernel)
theorem lk_X7_321 : xLinkV RX7 321 yX7_kindHere := ⟨xT_in (in_tbl (List.mem_of_getElem? (i := 1358) (by decide +kernel))) (by decide +kernel), im_X7_kindHere, sl_X7_kindHere, ini_RollTownModel⟩
theorem cd_X7_kindHere : Cond.code yX7_kindHere cX7_kindHere 3 (some .int) ∈ xT := xT_in (in_tbl (List.mem_of_getElem? (i := 1361) (by decide +kernel))) (by decide +kernel)
theorem xd_X7_kindHere : xD yX7_kindHere 0 := by decide +kernel
theorem cl_X7_331 : Cond.constantLong RX7 331 (198028) ∈ xT := xT_in (in_tbl (List.mem_of_getElem? (i := 1397) (by decide +kernel))) (by decide +kernel)
theorem im_X7_shutItem : Cond.instanceMethod yX7_shutItem ∈ xT := xT_in (in_tbl (List.mem_of_getElem? (i := 1405) (by decide +kernel))) (by decide +kernel)
theorem sl_X7_shutItem : Cond.selects RX7 yX7_shutItem yX7_shutItem ∈ xT := xT_in (in_sel (List.mem_of_getElem? (i := 73) (by decide +kernel))) (by decide +kernel)
theorem lk_X7_336 : xLinkV RX7 336 yX7_shutItem := ⟨xT_in (in_tbl (List.mem_of_getElem? (i := 1403) (by decide +kernel))) (by decide +kernel), im_X7_shutItem, sl_X7_shutItem, ini_RollTownModel⟩
theorem cd_X7_shutItem : Cond.code yX7_shutItem cX7_shutItem 2 none ∈ xT := xT_in (in_tbl (List.mem_of_getElem? (i := 1406) (by decide +kernel))) (by decide +kernel)
theorem xd_X7_shutItem : xD yX7_shutItem 0 := by decide +kernel
theorem im_X7_fallItem : Cond.instanceMethod yX7_fallItem ∈ xT := xT_in (in_tbl (List.mem_of_getElem? (i := 1400) (by decide +kernel))) (by decide +kernel)
theorem sl_X7_fallItem : Cond.selects RX7 yX7_fallItem yX7_fallItem ∈ xT := xT_in (in_sel (List.mem_of_getElem? (i := 72) (by decide +kernel))) (by decide +kernel)
theorem lk_X7_333 : xLinkV RX7 333 yX7_fallItem := ⟨xT_in (in_tbl (List.mem_of_getElem? (i := 1398) (by decide +kernel))) (by decide +kernel), im_X7_fallItem, sl_X7_fallItem, ini_RollTownModel⟩
theorem cd_X7_fallItem : Cond.code yX7_fallItem cX7_fallItem 3 none ∈ xT := xT_in (in_tbl (List.mem_of_getElem? (i := 1401) (by decide +kernel))) (by decide +kernel)
theorem xd_X7_fallItem : xD yX7_fallItem 0 := by decide +kernel
theorem im_X7_thingItem : Cond.instanceMethod yX7_thingItem ∈ xT := xT_in (in_tbl (List.mem_of_getElem? (i := 1392) (by decide +kernel))) (by decide +kernel)
theorem sl_X7_thingItem : Cond.selects RX7 yX7_thingItem yX7_thingItem ∈ xT := xT_in (in_sel (List.mem_of_getElem? (i := 71) (by decide +kernel))) (by decide +kernel)
theorem lk_X7_328 : xLinkV RX7 328 yX7_thingItem := ⟨xT_in (in_tbl (List.mem_of_getElem? (i := 1390) (by decide +kernel))) (by decide +kernel), im_X7_thingItem, sl_X7_thingItem, ini_RollTownModel⟩
theorem cd_X7_thingItem : Cond.code yX7_thingItem cX7_thingItem 6 none ∈ xT := xT_in (in_tbl (List.mem_of_getElem? (i := 1393) (by decide +kernel))) (by decide +kernel)
theorem xd_X7_thingItem : xD yX7_thingItem 1 := by decide +kernel
theorem im_X7_groundItem : Cond.instanceMethod yX7_groundItem ∈ xT := xT_in (in_tbl (List.mem_of_getElem? (i := 1371) (by decide +kernel))) (by decide +kernel)
theorem sl_X7_groundItem : Cond.selects RX7 yX7_groundItem yX7_groundItem ∈ xT := xT_in (in_sel (List.mem_of_getElem? (i := 66) (by decide +kernel))) (by decide +kernel)
theorem lk_X7_324 : xLinkV RX7 324 yX7_groundItem := ⟨xT_in (in_tbl (List.mem_of_getElem? (i := 1369) (by decide +kernel))) (by decide +kernel), im_X7_groundItem, sl_X7_groundItem, ini_RollTownModel⟩
theorem cd_X7_groundItem : Cond.code yX7_groundItem cX7_groundItem 3 none ∈ xT := xT_in (in_tbl (List.mem_of_getElem? (i := 1372) (by decide +kernel))) (by decide +kernel)
theorem xd_X7_groundItem : xD yX7_groundItem 1 := by decide +kernel
theorem im_X7_item : Cond.instanceMethod yX7_item ∈ xT := xT_in (in_tbl (List.mem_of_getElem? (i := 1341) (by decide +kernel))) (by decide +kernel)
theorem sl_X7_item : Cond.selects RX7 yX7_item yX7_item ∈ xT := xT_in (in_sel (List.mem_of_getElem? (i := 62) (by decide +kernel))) (by decide +kernel)
theorem lk_X7_339 : xLinkV RX7 339 yX7_item := ⟨xT_in (in_tbl (List.mem_of_getElem? (i := 1339) (by decide +kernel))) (by decide +kernel), im_X7_item, sl_X7_item, ini_RollTownModel⟩
theorem cd_X7_item : Cond.code yX7_item cX7_item 3 none ∈ xT := xT_in (in_tbl (List.mem_of_getElem? (i := 1342) (by decide +kernel))) (by decide +kernel)
theorem xd_X7_item : xD yX7_item 0 := by decide +kernel
theorem co_X7_343 : Cond.constant RX7 343 (-1000003) ∈ xT := xT_in (in_tbl (List.mem_of_getElem? (i := 1417) (by decide +kernel))) (by decide +kernel)
theorem co_X7_342 : Cond.constant RX7 342 (-1000006) ∈ xT := xT_in (in_tbl (List.mem_of_getElem? (i := 1416) (by decide +kernel))) (by decide +kernel)
theorem st_X7_isOne : Cond.static yX7_isOne ∈ xT := xT_in (in_tbl (List.mem_of_getElem? (i := 1423) (by decide +kernel))) (by decide +kernel)
theorem lk_X7_344 : xLinkS RX7 344 yX7_isOne := ⟨Or.inl (xT_in (in_tbl (List.mem_of_getElem? (i := 1422) (by decide +kernel))) (by decide +kernel)), st_X7_isOne, ini_RollTownModel⟩
theorem cd_X7_isOne : Cond.code yX7_isOne cX7_isOne 1 (some .boolean) ∈ xT := xT_in (in_tbl (List.mem_of_getElem? (i := 1424) (by decide +kernel))) (by decide +kernel)
theorem xd_X7_isOne : xD yX7_isOne 1 := by decide +kernel
theorem fl_X7_31 : Cond.fieldLink RX7 31 "RollTownModel" "bitsOf" "[I" ∈ xT := xT_in (in_tbl (List.mem_of_getElem? (i := 947) (by decide +kernel))) (by decide +kernel)
theorem fl_X7_34 : Cond.fieldLink RX7 34 "RollTownModel" "sizeOf" "[I" ∈ xT := xT_in (in_tbl (List.mem_of_getElem? (i := 948) (by decide +kernel))) (by decide +kernel)
theorem fl_X7_37 : Cond.fieldLink RX7 37 "RollTownModel" "number" "[I" ∈ xT := xT_in (in_tbl (List.mem_of_getElem? (i := 949) (by decide +kernel))) (by decide +kernel)
theorem co_X7_347 : Cond.constant RX7 347 (-1000007) ∈ xT := xT_in (in_tbl (List.mem_of_getElem? (i := 1425) (by decide +kernel))) (by decide +kernel)
theorem im_X7_wrong : Cond.instanceMethod yX7_wrong ∈ xT := xT_in (in_tbl (List.mem_of_getElem? (i := 1432) (by decide +kernel))) (by decide +kernel)
theorem sl_X7_wrong : Cond.selects RX7 yX7_wrong yX7_wrong ∈ xT := xT_in (in_sel (List.mem_of_getElem? (i := 74) (by decide +kernel))) (by decide +kernel)
theorem lk_X7_348 : xLinkV RX7 348 yX7_wrong := ⟨xT_in (in_tbl (List.mem_of_getElem? (i := 1430) (by decide +kernel))) (by decide +kernel), im_X7_wrong, sl_X7_wrong, ini_RollTownModel⟩
theorem cd_X7_wrong : Cond.code yX7_wrong cX7_wrong 2 (some .int) ∈ xT := xT_in (in_tbl (List.mem_of_getElem? (i := 1433) (by decide +kernel))) (by decide +kernel)
theorem xd_X7_wrong : xD yX7_wrong 1 := by decide +kernel
theorem st_X7_narrowed : Cond.static yX7_narrowed ∈ xT := xT_in (in_tbl (List.mem_of_getElem? (i := 1435) (by decide +kernel))) (by decide +kernel)
theorem lk_X7_351 : xLinkS RX7 351 yX7_narrowed := ⟨Or.inl (xT_in (in_tbl (List.mem_of_getElem? (i := 1434) (by decide +kernel))) (by decide +kernel)), st_X7_narrowed, ini_RollTownModel⟩
theorem cd_X7_narrowed : Cond.code yX7_narrowed cX7_narrowed 2 (some .int) ∈ xT := xT_in (in_tbl (List.mem_of_getElem? (i := 1436) (by decide +kernel))) (by decide +kernel)
theorem xd_X7_narrowed : xD yX7_narrowed 2 := by decide +kernel
theorem fl_X7_40 : Cond.fieldLink RX7 40 "RollTownModel" "moved" "[I" ∈ xT := xT_in (in_tbl (List.mem_of_getElem? (i := 950) (by decide +kernel))) (by decide +kernel)
theorem fl_X7_354 : Cond.fieldLink RX7 354 "RollTownModel" "isKept" "Z" ∈ xT := xT_in (in_tbl (List.mem_of_getElem? (i := 928) (by decide +kernel))) (by decide +kernel)
theorem fl_X7_13 : Cond.fieldLink RX7 13 "RollTownModel" "keptS" "[I" ∈ xT := xT_in (in_tbl (List.mem_of_getElem? (i := 925) (by decide +kernel))) (by decide +kernel)
theorem im_X7_stones : Cond.instanceMethod yX7_stones ∈ xT := xT_in (in_tbl (List.mem_of_getElem? (i := 1467) (by decide +kernel))) (by decide +kernel)
theorem sl_X7_stones : Cond.selects RX7 yX7_stones yX7_stones ∈ xT := xT_in (in_sel (List.mem_of_getElem? (i := 75) (by decide +kernel))) (by decide +kernel)
theorem lk_X7_357 : xLinkV RX7 357 yX7_stones := ⟨xT_in (in_tbl (List.mem_of_getElem? (i := 1465) (by decide +kernel))) (by decide +kernel), im_X7_stones, sl_X7_stones, ini_RollTownModel⟩
theorem cd_X7_stones : Cond.code yX7_stones cX7_stones 3 (some .int) ∈ xT := xT_in (in_tbl (List.mem_of_getElem? (i := 1468) (by decide +kernel))) (by decide +kernel)
theorem xd_X7_stones : xD yX7_stones 0 := by decide +kernel
theorem im_X7_held : Cond.instanceMethod yX7_held ∈ xT := xT_in (in_tbl (List.mem_of_getElem? (i := 1471) (by decide +kernel))) (by decide +kernel)
theorem sl_X7_held : Cond.selects RX7 yX7_held yX7_held ∈ xT := xT_in (in_sel (List.mem_of_getElem? (i := 76) (by decide +kernel))) (by decide +kernel)
theorem lk_X7_360 : xLinkV RX7 360 yX7_held := ⟨xT_in (in_tbl (List.mem_of_getElem? (i := 1469) (by decide +kernel))) (by decide +kernel), im_X7_held, sl_X7_held, ini_RollTownModel⟩
theorem cd_X7_held : Cond.code yX7_held cX7_held 3 (some .int) ∈ xT := xT_in (in_tbl (List.mem_of_getElem? (i := 1472) (by decide +kernel))) (by decide +kernel)
theorem xd_X7_held : xD yX7_held 0 := by decide +kernel
theorem cl_X7_363 : Cond.constantLong RX7 363 (-1) ∈ xT := xT_in (in_tbl (List.mem_of_getElem? (i := 1477) (by decide +kernel))) (by decide +kernel)
