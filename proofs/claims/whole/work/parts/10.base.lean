/-! where things stand once the two objects are made: references by object and place; the row lists: object, most rows, width -/
def gRfL : List (List (Option Nat)) := [[some 1, some 52, some 206, some 207, some 230, some 247, some 268, some 271, some 308, some 311], [some 2, some 3, some 4, some 5, some 6, some 7, some 8, some 9], [], [], [some 10, some 31], [some 18, some 39], [some 23, some 44], [some 25, some 46], [some 27, some 48], [some 29, some 50], [some 11, some 13, some 15, some 17], [none, none, some 12], [], [none, none, some 14], [], [none, none, some 16], [], [], [some 19, some 21], [none, none, some 20], [], [none, none, some 22], [], [none, none, some 24], [], [none, none, some 26], [], [none, none, some 28], [], [none, none, some 30], [], [some 32, some 34, some 36, some 38], [none, none, some 33], [], [none, none, some 35], [], [none, none, some 37], [], [], [some 40, some 42], [none, none, some 41], [], [none, none, some 43], [], [none, none, some 45], [], [none, none, some 47], [], [none, none, some 49], [], [none, none, some 51], [], [some 53, some 104, some 155], [some 54, some 55, some 56, some 57, some 58, some 59, some 60, some 61], [], [], [some 62, some 83], [some 70, some 91], [some 75, some 96], [some 77, some 98], [some 79, some 100], [some 81, some 102], [some 63, some 65, some 67, some 69], [none, none, some 64], [], [none, none, some 66], [], [none, none, some 68], [], [], [some 71, some 73], [none, none, some 72], [], [none, none, some 74], [], [none, none, some 76], [], [none, none, some 78], [], [none, none, some 80], [], [none, none, some 82], [], [some 84, some 86, some 88, some 90], [none, none, some 85], [], [none, none, some 87], [], [none, none, some 89], [], [], [some 92, some 94], [none, none, some 93], [], [none, none, some 95], [], [none, none, some 97], [], [none, none, some 99], [], [none, none, some 101], [], [none, none, some 103], [], [some 105, some 106, some 107, some 108, some 109, some 110, some 111, some 112], [], [], [some 113, some 134], [some 121, some 142], [some 126, some 147], [some 128, some 149], [some 130, some 151], [some 132, some 153], [some 114, some 116, some 118, some 120], [none, none, some 115], [], [none, none, some 117], [], [none, none, some 119], [], [], [some 122, some 124], [none, none, some 123], [], [none, none, some 125], [], [none, none, some 127], [], [none, none, some 129], [], [none, none, some 131], [], [none, none, some 133], [], [some 135, some 137, some 139, some 141], [none, none, some 136], [], [none, none, some 138], [], [none, none, some 140], [], [], [some 143, some 145], [none, none, some 144], [], [none, none, some 146], [], [none, none, some 148], [], [none, none, some 150], [], [none, none, some 152], [], [none, none, some 154], [], [some 156, some 157, some 158, some 159, some 160, some 161, some 162, some 163], [], [], [some 164, some 185], [some 172, some 193], [some 177, some 198], [some 179, some 200], [some 181, some 202], [some 183, some 204], [some 165, some 167, some 169, some 171], [none, none, some 166], [], [none, none, some 168], [], [none, none, some 170], [], [], [some 173, some 175], [none, none, some 174], [], [none, none, some 176], [], [none, none, some 178], [], [none, none, some 180], [], [none, none, some 182], [], [none, none, some 184], [], [some 186, some 188, some 190, some 192], [none, none, some 187], [], [none, none, some 189], [], [none, none, some 191], [], [], [some 194, some 196], [none, none, some 195], [], [none, none, some 197], [], [none, none, some 199], [], [none, none, some 201], [], [none, none, some 203], [], [none, none, some 205], [], [], [some 208, some 209, some 217, some 222, some 224, some 226, some 228], [], [some 210, some 212, some 214, some 216], [none, none, some 211], [], [none, none, some 213], [], [none, none, some 215], [], [], [some 218, some 220], [none, none, some 219], [], [none, none, some 221], [], [none, none, some 223], [], [none, none, some 225], [], [none, none, some 227], [], [none, none, some 229], [], [some 231, some 232, some 233, some 234, some 235, some 236, some 237, some 238, some 239], [], [], [], [], [], [], [], [], [some 240, some 242, some 244, some 246], [none, none, some 241], [], [none, none, some 243], [], [none, none, some 245], [], [], [some 248, some 266, some 267], [some 249, some 250, some 251, some 252, some 253, some 254, some 255, some 256, some 257, some 258, some 259, some 260, some 261, some 262, some 263, some 264, some 265], [], [], [], [], [], [], [], [], [], [], [], [], [], [], [], [], [], [], [], [some 269, some 270], [], [], [some 272, some 290], [some 273, some 274, some 275, some 276, some 277, some 278, some 279, some 280, some 281, some 282, some 283, some 284, some 285, some 286, some 287, some 288, some 289], [], [], [], [], [], [], [], [], [], [], [], [], [], [], [], [], [], [some 291, some 292, some 293, some 294, some 295, some 296, some 297, some 298, some 299, some 300, some 301, some 302, some 303, some 304, some 305, some 306, some 307], [], [], [], [], [], [], [], [], [], [], [], [], [], [], [], [], [], [some 309, some 310], [], [], [some 312], [], [none, some 314, some 315, some 316, some 317, some 318, some 319, some 320, some 321, some 322, some 323, some 324, none, none, none, none, none, none, none, none, none, some 325, some 326, none, none, none, none, none, none, none, none, none, none, none, none, none, none, none, none, some 327, some 328, some 329, some 330, some 331, some 332, none, some 333, some 334, some 335, some 336, none, none, none, some 337, some 338, none, some 339, some 340, some 341, none, none, some 342], [], [], [], [], [], [], [], [], [], [], [], [], [], [], [], [], [], [], [], [], [], [], [], [], [], [], [], [], []]
def gRf (o i : Nat) : Option Nat := (gRfL.getD o []).getD i none
def gRwL : List (Nat × Nat × Nat) := [(11, 4, 2), (13, 8, 5), (15, 6, 2), (19, 20, 3), (21, 20, 3), (23, 40, 3), (25, 16, 1), (27, 30, 3), (29, 10, 2), (32, 4, 2), (34, 8, 5), (36, 6, 2), (40, 20, 3), (42, 20, 3), (44, 40, 3), (46, 16, 1), (48, 30, 3), (50, 10, 2), (63, 4, 2), (65, 8, 5), (67, 6, 2), (71, 20, 3), (73, 20, 3), (75, 40, 3), (77, 16, 1), (79, 30, 3), (81, 10, 2), (84, 4, 2), (86, 8, 5), (88, 6, 2), (92, 20, 3), (94, 20, 3), (96, 40, 3), (98, 16, 1), (100, 30, 3), (102, 10, 2), (114, 4, 2), (116, 8, 5), (118, 6, 2), (122, 20, 3), (124, 20, 3), (126, 40, 3), (128, 16, 1), (130, 30, 3), (132, 10, 2), (135, 4, 2), (137, 8, 5), (139, 6, 2), (143, 20, 3), (145, 20, 3), (147, 40, 3), (149, 16, 1), (151, 30, 3), (153, 10, 2), (165, 4, 2), (167, 8, 5), (169, 6, 2), (173, 20, 3), (175, 20, 3), (177, 40, 3), (179, 16, 1), (181, 30, 3), (183, 10, 2), (186, 4, 2), (188, 8, 5), (190, 6, 2), (194, 20, 3), (196, 20, 3), (198, 40, 3), (200, 16, 1), (202, 30, 3), (204, 10, 2), (210, 4, 2), (212, 8, 5), (214, 6, 2), (218, 20, 3), (220, 20, 3), (222, 40, 3), (224, 16, 1), (226, 30, 3), (228, 10, 2), (240, 4, 2), (242, 8, 5), (244, 6, 2)]
/-- all is made, and stands where it stood -/
def Wr (S : GS) : Prop := S.2.2.2 = 343 ∧ ∀ o i, ¬ (o = 230 ∧ i = 8) → S.2.2.1 o i = gRf o i
/-- what a script's later calls can see -/
def Pm (o : Nat) : Bool := Nat.blt o 230 || (Nat.ble 314 o && Nat.blt o 325) || Nat.beq o 342
def Sm (S S' : GS) : Prop := S'.2.2.2 = S.2.2.2 ∧ (∀ o i, ¬ (o = 230 ∧ i = 8) → S'.2.2.1 o i = S.2.2.1 o i) ∧ ∀ o, Pm o = true → S'.1 o = S.1 o
theorem Sm.rf (S : GS) : Sm S S := ⟨rfl, fun _ _ _ => rfl, fun _ _ => rfl⟩
theorem Sm.tr {S S1 S2 : GS} (h : Sm S S1) (h2 : Sm S1 S2) : Sm S S2 := ⟨h2.1.trans h.1, fun o i q => (h2.2.1 o i q).trans (h.2.1 o i q), fun o q => (h2.2.2 o q).trans (h.2.2 o q)⟩
theorem Sm.wr {S S' : GS} (h : Sm S S') (hW : Wr S) : Wr S' := ⟨h.1.trans hW.1, fun o i q => (h.2.1 o i q).trans (hW.2 o i q)⟩
theorem sm_I {S : GS} {o i : Nat} {v : Int32} (h : Pm o = false) : Sm S (sI S o i v) := ⟨rfl, fun _ _ _ => rfl, fun o' h' => by
  have : o' ≠ o := fun e => by rw [e, h] at h'; cases h'
  funext j
  show (if o' = o ∧ j = i then v else S.1 o' j) = _
  rw [if_neg (fun q => this q.1)]⟩
theorem sm_J {S : GS} {o i : Nat} {v : Int64} : Sm S (sJ S o i v) := ⟨rfl, fun _ _ _ => rfl, fun _ _ => rfl⟩
theorem wr_I {S : GS} {o i : Nat} {v : Int32} (h : Wr S) : Wr (sI S o i v) := h
theorem wr_J {S : GS} {o i : Nat} {v : Int64} (h : Wr S) : Wr (sJ S o i v) := h
theorem gk_n {S : GS} (hW : Wr S) {o c : Nat} (ho : o < 343) (hc : kd o = c) : gk S o = c := by
  unfold gk
  rw [hW.1, if_pos ho, hc]
theorem rf_n {S : GS} (hW : Wr S) {o i : Nat} {r : Option Nat} (h : ¬ (o = 230 ∧ i = 8)) (hr : gRf o i = r) : S.2.2.1 o i = r := (hW.2 o i h).trans hr
/-! readings, step by step -/
section RD
variable {α β : Type} {S : GS} {o c i k n : Nat}
theorem rn_s {g : Nat → Option α} (h : gk S o = c) : rn (some o) c S g = g o := if_pos h
theorem xI_s {g : Int32 → Option α} (h : gk S o = c) : xI (some o) c i S g = g (S.1 o i) := if_pos h
theorem xJ_s {g : Int64 → Option α} (h : gk S o = c) : xJ (some o) c i S g = g (S.2.1 o i) := if_pos h
theorem xR_s {g : Option Nat → Option α} (h : gk S o = c) : xR (some o) c i S g = g (S.2.2.1 o i) := if_pos h
theorem xR_w {g : Option Nat → Option α} (hW : Wr S) (ho : o < 343) (hc : kd o = c) (hn : ¬ (o = 230 ∧ i = 8)) {r : Option Nat} (hr : gRf o i = r) : xR (some o) c i S g = g r := by rw [xR_s (gk_n hW ho hc), rf_n hW hn hr]
theorem xI_w {g : Int32 → Option α} (hW : Wr S) (ho : o < 343) (hc : kd o = c) : xI (some o) c i S g = g (S.1 o i) := xI_s (gk_n hW ho hc)
theorem xJ_w {g : Int64 → Option α} (hW : Wr S) (ho : o < 343) (hc : kd o = c) : xJ (some o) c i S g = g (S.2.1 o i) := xJ_s (gk_n hW ho hc)
theorem xl_s {g : Int32 → Option α} (h : gk S o = c) : xl (some o) c S g = g (nI (ln o)) := if_pos h
theorem xl_w {g : Int32 → Option α} (hW : Wr S) (ho : o < 343) (hc : kd o = c) {n : Nat} (hl : ln o = n) : xl (some o) c S g = g (nI n) := by rw [xl_s (gk_n hW ho hc), hl]
theorem ix_n {g : Nat → Option α} (h : k < n) (hn : k < 2 ^ 31) : ix (nI k) n g = g k := by
  unfold ix
  rw [if_neg, nI_clamp hn]
  rintro (q | q)
  · exact nI_pos hn q
  · rw [nI_clamp hn] at q
    omega
theorem ix_j {j : Int32} {g : Nat → Option α} (h0 : ¬ j < 0) (h : j.toNatClampNeg < n) : ix j n g = g j.toNatClampNeg := by
  unfold ix
  rw [if_neg]
  rintro (q | q)
  · exact h0 q
  · omega
theorem yI_n {g : Int32 → Option α} (h : gk S o = c) (hk : k < ln o) (hn : k < 2 ^ 31) : yI (some o) c (nI k) S g = g (S.1 o k) := (if_pos h).trans (ix_n hk hn)
theorem yJ_n {g : Int64 → Option α} (h : gk S o = 15) (hk : k < ln o) (hn : k < 2 ^ 31) : yJ (some o) (nI k) S g = g (S.2.1 o k) := (if_pos h).trans (ix_n hk hn)
theorem yR_n {g : Option Nat → Option α} (h : gk S o = c) (hk : k < ln o) (hn : k < 2 ^ 31) : yR (some o) c (nI k) S g = g (S.2.2.1 o k) := (if_pos h).trans (ix_n hk hn)
theorem qI_n {v : Int32} {g : GS → Option α} (h : gk S o = 14) (hk : k < ln o) (hn : k < 2 ^ 31) : qI (some o) (nI k) v S g = g (sI S o k v) := (if_pos h).trans (ix_n hk hn)
theorem qJ_n {v : Int64} {g : GS → Option α} (h : gk S o = 15) (hk : k < ln o) (hn : k < 2 ^ 31) : qJ (some o) (nI k) v S g = g (sJ S o k v) := (if_pos h).trans (ix_n hk hn)
theorem qZ_n {v : Int32} {g : GS → Option α} (h : gk S o = 16) (hk : k < ln o) (hn : k < 2 ^ 31) : qZ (some o) (nI k) v S g = g (sI S o k (v &&& 1)) := (if_pos h).trans (ix_n hk hn)
theorem qB_n {v : Int32} {g : GS → Option α} (h : gk S o = 13) (hk : k < ln o) (hn : k < 2 ^ 31) : qB (some o) (nI k) v S g = g (sI S o k v.toInt8.toInt32) := (if_pos h).trans (ix_n hk hn)
theorem yI_w {g : Int32 → Option α} (hW : Wr S) (ho : o < 343) (hc : kd o = c) {n : Nat} (hl : ln o = n) (hk : k < n) (hn : k < 2 ^ 31) : yI (some o) c (nI k) S g = g (S.1 o k) := yI_n (gk_n hW ho hc) (by rw [hl]; exact hk) hn
theorem yJ_w {g : Int64 → Option α} (hW : Wr S) (ho : o < 343) (hc : kd o = 15) {n : Nat} (hl : ln o = n) (hk : k < n) (hn : k < 2 ^ 31) : yJ (some o) (nI k) S g = g (S.2.1 o k) := yJ_n (gk_n hW ho hc) (by rw [hl]; exact hk) hn
theorem qI_w {v : Int32} {g : GS → Option α} (hW : Wr S) (ho : o < 343) (hc : kd o = 14) {n : Nat} (hl : ln o = n) (hk : k < n) (hn : k < 2 ^ 31) : qI (some o) (nI k) v S g = g (sI S o k v) := qI_n (gk_n hW ho hc) (by rw [hl]; exact hk) hn
theorem qJ_w {v : Int64} {g : GS → Option α} (hW : Wr S) (ho : o < 343) (hc : kd o = 15) {n : Nat} (hl : ln o = n) (hk : k < n) (hn : k < 2 ^ 31) : qJ (some o) (nI k) v S g = g (sJ S o k v) := qJ_n (gk_n hW ho hc) (by rw [hl]; exact hk) hn
theorem qZ_w {v : Int32} {g : GS → Option α} (hW : Wr S) (ho : o < 343) (hc : kd o = 16) {n : Nat} (hl : ln o = n) (hk : k < n) (hn : k < 2 ^ 31) : qZ (some o) (nI k) v S g = g (sI S o k (v &&& 1)) := qZ_n (gk_n hW ho hc) (by rw [hl]; exact hk) hn
theorem qB_w {v : Int32} {g : GS → Option α} (hW : Wr S) (ho : o < 343) (hc : kd o = 13) {n : Nat} (hl : ln o = n) (hk : k < n) (hn : k < 2 ^ 31) : qB (some o) (nI k) v S g = g (sI S o k v.toInt8.toInt32) := qB_n (gk_n hW ho hc) (by rw [hl]; exact hk) hn
theorem pI_s {v : Int32} {g : GS → Option α} (h : gk S o = c) : pI (some o) c i v S g = g (sI S o i v) := if_pos h
theorem pJ_s {v : Int64} {g : GS → Option α} (h : gk S o = c) : pJ (some o) c i v S g = g (sJ S o i v) := if_pos h
theorem pR_s {v : Option Nat} {g : GS → Option α} (h : gk S o = c) : pR (some o) c i v S g = g (sR S o i v) := if_pos h
theorem pI_w {v : Int32} {g : GS → Option α} (hW : Wr S) (ho : o < 343) (hc : kd o = c) : pI (some o) c i v S g = g (sI S o i v) := pI_s (gk_n hW ho hc)
theorem pJ_w {v : Int64} {g : GS → Option α} (hW : Wr S) (ho : o < 343) (hc : kd o = c) : pJ (some o) c i v S g = g (sJ S o i v) := pJ_s (gk_n hW ho hc)
theorem b1_s {b : β} {g : β → Option α} : b1 (some b) g = g b := rfl
theorem b2_s {b : β} {S1 : GS} {g : β → GS → Option α} : b2 (some (b, S1)) g = g b S1 := rfl
theorem c1_s {f : Nat → Option β} {g : β → Option α} (h : gk S o = c) : c1 (some o) c S f g = b1 (f o) g := if_pos h
theorem c1_w {f : Nat → Option β} {g : β → Option α} (hW : Wr S) (ho : o < 343) (hc : kd o = c) : c1 (some o) c S f g = b1 (f o) g := c1_s (gk_n hW ho hc)
theorem c2_s {f : Nat → Option (β × GS)} {g : β → GS → Option α} (h : gk S o = c) : c2 (some o) c S f g = b2 (f o) g := if_pos h
theorem c2_w {f : Nat → Option (β × GS)} {g : β → GS → Option α} (hW : Wr S) (ho : o < 343) (hc : kd o = c) : c2 (some o) c S f g = b2 (f o) g := c2_s (gk_n hW ho hc)
theorem c1_v {f : Nat → Option β} {g : β → Option α} {b : β} (hW : Wr S) (ho : o < 343) (hc : kd o = c) (hf : f o = some b) : c1 (some o) c S f g = g b := by rw [c1_w hW ho hc, hf]; rfl
theorem c1_e {f : Nat → Option β} {g : β → Option α} {b : β} (h : gk S o = c) (hf : f o = some b) : c1 (some o) c S f g = g b := by rw [c1_s h, hf]; rfl
theorem nul_n {A C : Option α} : nul none A C = A := rfl
theorem nul_s {A C : Option α} : nul (some o) A C = C := rfl
end RD
theorem nI_mul (a b : Nat) : nI a * nI b = nI (a * b) := (Int32.ofNat_mul a b).symm
theorem nI_lit (a : Nat) : (OfNat.ofNat a : Int32) = nI a := rfl
theorem nI_sub {a b : Nat} (h : b ≤ a) : nI a - nI b = nI (a - b) := by
  have : nI a = nI (a - b) + nI b := by rw [nI_add, Nat.sub_add_cancel h]
  rw [this]
  exact Int32.add_sub_cancel _ _
/-! rows -/
def nr (S : GS) (o : Nat) : Nat := (S.1 o 3).toNatClampNeg
/-- a row list: its object, the most rows, its width -/
def Rw (S : GS) (o m w : Nat) : Prop := gk S o = 7 ∧ gk S (o + 1) = 14 ∧ ln (o + 1) = m * w ∧ S.2.2.1 o 2 = some (o + 1) ∧ S.1 o 0 = nI m ∧ S.1 o 1 = nI w ∧ S.1 o 3 = nI (nr S o) ∧ nr S o ≤ m ∧ m ≤ 40 ∧ w ≤ 5
section RW
variable {S : GS} {o m w : Nat}
theorem Rw.has (h : Rw S o m w) {k : Nat} (hk : k < 2 ^ 31) : f_X7_has o (nI k) S = some (if k < nr S o then 1 else 0) := by
  obtain ⟨h1, h2, h3, h4, h5, h6, h7, h8, h9, h10⟩ := h
  unfold f_X7_has
  rw [if_neg (nI_pos hk), xI_s h1, h7]
  by_cases q : k < nr S o
  · rw [if_pos q, if_neg (by rw [nI_leI (by omega) (by omega)]; omega)]
  · rw [if_neg q, if_pos (by rw [nI_leI (by omega) (by omega)]; omega)]
theorem Rw.hasN (h : Rw S o m w) {x : Int32} (hx : x < 0) : f_X7_has o x S = some 0 := by
  unfold f_X7_has
  rw [if_pos hx]
theorem Rw.cell (h : Rw S o m w) {k i : Nat} (hk : k < nr S o) (hi : i < w) : f_X7_cell o (nI k) (nI i) S = some (S.1 (o + 1) (w * k + i)) := by
  obtain ⟨h1, h2, h3, h4, h5, h6, h7, h8, h9, h10⟩ := h
  have hb : k * w + i < m * w := by
    have := Nat.mul_le_mul_right w (show k + 1 ≤ m by omega)
    rw [Nat.succ_mul] at this
    omega
  have hb2 : m * w ≤ 40 * 5 := Nat.mul_le_mul h9 h10
  unfold f_X7_cell
  rw [if_neg (nI_pos (by omega)), xI_s h1, h7, if_neg (by rw [nI_leI (by omega) (by omega)]; omega), if_neg (nI_pos (by omega)), xI_s h1, h6, if_pos (by rw [nI_ltI (by omega) (by omega)]; omega), xR_s h1, xI_s h1, h4, h6, nI_mul, nI_add, yI_n h2 (by omega) (by omega), Nat.mul_comm k w]
theorem Rw.cellO (h : Rw S o m w) {k : Nat} (hk : k < 2 ^ 31) (hn : nr S o ≤ k) {c : Int32} : f_X7_cell o (nI k) c S = some (-1) := by
  obtain ⟨h1, h2, h3, h4, h5, h6, h7, h8, h9, h10⟩ := h
  unfold f_X7_cell
  rw [if_neg (nI_pos hk), xI_s h1, h7, if_pos (by rw [nI_leI (by omega) (by omega)]; omega)]
theorem Rw.cellN (h : Rw S o m w) {x c : Int32} (hx : x < 0) : f_X7_cell o x c S = some (-1) := by
  unfold f_X7_cell
  rw [if_pos hx]
theorem Rw.cellC (h : Rw S o m w) {k c : Int32} (hc : c < 0 ∨ ∃ i : Nat, i < 2 ^ 31 ∧ w ≤ i ∧ c = nI i) : f_X7_cell o k c S = some (-1) := by
  obtain ⟨h1, h2, h3, h4, h5, h6, h7, h8, h9, h10⟩ := h
  unfold f_X7_cell
  split
  · rfl
  · rw [xI_s h1]
    split
    · rfl
    · rcases hc with hc | ⟨i, hi, hw, rfl⟩
      · rw [if_pos hc]
      · rw [if_neg (nI_pos hi), xI_s h1, h6, if_neg (by rw [nI_ltI (by omega) (by omega)]; omega)]
end RW
