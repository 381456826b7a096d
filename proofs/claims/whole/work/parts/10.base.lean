/-! where things stand once the two objects are made: references by object and place; the row lists: object, most rows, width -/
def gRfL : List (List (Option Nat)) := [[some 1, some 52, some 206, some 207, some 230, some 247, some 268, some 271, some 308, some 311], [some 2, some 3, some 4, some 5, some 6, some 7, some 8, some 9], [], [], [some 10, some 31], [some 18, some 39], [some 23, some 44], [some 25, some 46], [some 27, some 48], [some 29, some 50], [some 11, some 13, some 15, some 17], [none, none, some 12], [], [none, none, some 14], [], [none, none, some 16], [], [], [some 19, some 21], [none, none, some 20], [], [none, none, some 22], [], [none, none, some 24], [], [none, none, some 26], [], [none, none, some 28], [], [none, none, some 30], [], [some 32, some 34, some 36, some 38], [none, none, some 33], [], [none, none, some 35], [], [none, none, some 37], [], [], [some 40, some 42], [none, none, some 41], [], [none, none, some 43], [], [none, none, some 45], [], [none, none, some 47], [], [none, none, some 49], [], [none, none, some 51], [], [some 53, some 104, some 155], [some 54, some 55, some 56, some 57, some 58, some 59, some 60, some 61], [], [], [some 62, some 83], [some 70, some 91], [some 75, some 96], [some 77, some 98], [some 79, some 100], [some 81, some 102], [some 63, some 65, some 67, some 69], [none, none, some 64], [], [none, none, some 66], [], [none, none, some 68], [], [], [some 71, some 73], [none, none, some 72], [], [none, none, some 74], [], [none, none, some 76], [], [none, none, some 78], [], [none, none, some 80], [], [none, none, some 82], [], [some 84, some 86, some 88, some 90], [none, none, some 85], [], [none, none, some 87], [], [none, none, some 89], [], [], [some 92, some 94], [none, none, some 93], [], [none, none, some 95], [], [none, none, some 97], [], [none, none, some 99], [], [none, none, some 101], [], [none, none, some 103], [], [some 105, some 106, some 107, some 108, some 109, some 110, some 111, some 112], [], [], [some 113, some 134], [some 121, some 142], [some 126, some 147], [some 128, some 149], [some 130, some 151], [some 132, some 153], [some 114, some 116, some 118, some 120], [none, none, some 115], [], [none, none, some 117], [], [none, none, some 119], [], [], [some 122, some 124], [none, none, some 123], [], [none, none, some 125], [], [none, none, some 127], [], [none, none, some 129], [], [none, none, some 131], [], [none, none, some 133], [], [some 135, some 137, some 139, some 141], [none, none, some 136], [], [none, none, some 138], [], [none, none, some 140], [], [], [some 143, some 145], [none, none, some 144], [], [none, none, some 146], [], [none, none, some 148], [], [none, none, some 150], [], [none, none, some 152], [], [none, none, some 154], [], [some 156, some 157, some 158, some 159, some 160, some 161, some 162, some 163], [], [], [some 164, some 185], [some 172, some 193], [some 177, some 198], [some 179, some 200], [some 181, some 202], [some 183, some 204], [some 165, some 167, some 169, some 171], [none, none, some 166], [], [none, none, some 168], [], [none, none, some 170], [], [], [some 173, some 175], [none, none, some 174], [], [none, none, some 176], [], [none, none, some 178], [], [none, none, some 180], [], [none, none, some 182], [], [none, none, some 184], [], [some 186, some 188, some 190, some 192], [none, none, some 187], [], [none, none, some 189], [], [none, none, some 191], [], [], [some 194, some 196], [none, none, some 195], [], [none, none, some 197], [], [none, none, some 199], [], [none, none, some 201], [], [none, none, some 203], [], [none, none, some 205], [], [], [some 208, some 209, some 217, some 222, some 224, some 226, some 228], [], [some 210, some 212, some 214, some 216], [none, none, some 211], [], [none, none, some 213], [], [none, none, some 215], [], [], [some 218, some 220], [none, none, some 219], [], [none, none, some 221], [], [none, none, some 223], [], [none, none, some 225], [], [none, none, some 227], [], [none, none, some 229], [], [some 231, some 232, some 233, some 234, some 235, some 236, some 237, some 238, some 239], [], [], [], [], [], [], [], [], [some 240, some 242, some 244, some 246], [none, none, some 241], [], [none, none, some 243], [], [none, none, some 245], [], [], [some 248, some 266, some 267], [some 249, some 250, some 251, some 252, some 253, some 254, some 255, some 256, some 257, some 258, some 259, some 260, some 261, some 262, some 263, some 264, some 265], [], [], [], [], [], [], [], [], [], [], [], [], [], [], [], [], [], [], [], [some 269, some 270], [], [], [some 272, some 290], [some 273, some 274, some 275, some 276, some 277, some 278, some 279, some 280, some 281, some 282, some 283, some 284, some 285, some 286, some 287, some 288, some 289], [], [], [], [], [], [], [], [], [], [], [], [], [], [], [], [], [], [some 291, some 292, some 293, some 294, some 295, some 296, some 297, some 298, some 299, some 300, some 301, some 302, some 303, some 304, some 305, some 306, some 307], [], [], [], [], [], [], [], [], [], [], [], [], [], [], [], [], [], [some 309, some 310], [], [], [some 312], [], [none, some 314, some 315, some 316, some 317, some 318, some 319, some 320, some 321, some 322, some 323, some 324, none, none, none, none, none, none, none, none, none, some 325, some 326, none, none, none, none, none, none, none, none, none, none, none, none, none, none, none, none, some 327, some 328, some 329, some 330, some 331, some 332, none, some 333, some 334, some 335, some 336, none, none, none, some 337, some 338, none, some 339, some 340, some 341, none, none, some 342], [], [], [], [], [], [], [], [], [], [], [], [], [], [], [], [], [], [], [], [], [], [], [], [], [], [], [], [], []]
def gRf (o i : Nat) : Option Nat := (gRfL.getD o []).getD i none
def gRwL : List (Nat × Nat × Nat) := [(11, 4, 2), (13, 8, 5), (15, 6, 2), (19, 20, 3), (21, 20, 3), (23, 40, 3), (25, 16, 1), (27, 30, 3), (29, 10, 2), (32, 4, 2), (34, 8, 5), (36, 6, 2), (40, 20, 3), (42, 20, 3), (44, 40, 3), (46, 16, 1), (48, 30, 3), (50, 10, 2), (63, 4, 2), (65, 8, 5), (67, 6, 2), (71, 20, 3), (73, 20, 3), (75, 40, 3), (77, 16, 1), (79, 30, 3), (81, 10, 2), (84, 4, 2), (86, 8, 5), (88, 6, 2), (92, 20, 3), (94, 20, 3), (96, 40, 3), (98, 16, 1), (100, 30, 3), (102, 10, 2), (114, 4, 2), (116, 8, 5), (118, 6, 2), (122, 20, 3), (124, 20, 3), (126, 40, 3), (128, 16, 1), (130, 30, 3), (132, 10, 2), (135, 4, 2), (137, 8, 5), (139, 6, 2), (143, 20, 3), (145, 20, 3), (147, 40, 3), (149, 16, 1), (151, 30, 3), (153, 10, 2), (165, 4, 2), (167, 8, 5), (169, 6, 2), (173, 20, 3), (175, 20, 3), (177, 40, 3), (179, 16, 1), (181, 30, 3), (183, 10, 2), (186, 4, 2), (188, 8, 5), (190, 6, 2), (194, 20, 3), (196, 20, 3), (198, 40, 3), (200, 16, 1), (202, 30, 3), (204, 10, 2), (210, 4, 2), (212, 8, 5), (214, 6, 2), (218, 20, 3), (220, 20, 3), (222, 40, 3), (224, 16, 1), (226, 30, 3), (228, 10, 2), (240, 4, 2), (242, 8, 5), (244, 6, 2)]
/-- all is made, and stands where it stood -/
def Wr (S : GS) : Prop := S.2.2.2 = 343 ∧ ∀ o i, ¬ (o = 230 ∧ i = 8) → S.2.2.1 o i = gRf o i
/-- what a script's later calls can see -/
def Pm (o : Nat) : Bool := Nat.blt o 230 || (Nat.ble 314 o && Nat.blt o 325) || Nat.beq o 342 || Nat.beq o 309
def Sm (S S' : GS) : Prop := S'.2.2.2 = S.2.2.2 ∧ (∀ o i, ¬ (o = 230 ∧ i = 8) → S'.2.2.1 o i = S.2.2.1 o i) ∧ ∀ o, Pm o = true → S'.1 o = S.1 o
theorem Sm.rf (S : GS) : Sm S S := ⟨rfl, fun _ _ _ => rfl, fun _ _ => rfl⟩
theorem Sm.tr {S S1 S2 : GS} (h : Sm S S1) (h2 : Sm S1 S2) : Sm S S2 := ⟨h2.1.trans h.1, fun o i q => (h2.2.1 o i q).trans (h.2.1 o i q), fun o q => (h2.2.2 o q).trans (h.2.2 o q)⟩
theorem Sm.wr {S S' : GS} (h : Sm S S') (hW : Wr S) : Wr S' := ⟨h.1.trans hW.1, fun o i q => (h.2.1 o i q).trans (hW.2 o i q)⟩
theorem sm_I {S : GS} {o i : Nat} {v : Int32} (h : Pm o = false) : Sm S (sI S o i v) := ⟨rfl, fun _ _ _ => rfl, fun o' h' => by
  have : o' ≠ o := fun e => by rw [e, h] at h'; cases h'
  funext j
  show (if o' = o ∧ j = i then v else S.1 o' j) = _
  rw [if_neg (fun q => this q.1)]⟩
theorem sm_J {S : GS} {o i : Nat} {v : Int64} : Sm S (sJ S o i v) := ⟨rfl, fun _ _ _ => rfl, fun _ _ => rfl⟩
theorem wr_I {S : GS} {o i : Nat} {v : Int32} (h : Wr S) : Wr (sI S o i v) := h
theorem wr_J {S : GS} {o i : Nat} {v : Int64} (h : Wr S) : Wr (sJ S o i v) := h
theorem gk_n {S : GS} (hW : Wr S) {o c : Nat} (ho : o < 343) (hc : kd o = c) : gk S o = c := by
  unfold gk
  rw [hW.1, if_pos ho, hc]
theorem rf_n {S : GS} (hW : Wr S) {o i : Nat} {r : Option Nat} (h : ¬ (o = 230 ∧ i = 8)) (hr : gRf o i = r) : S.2.2.1 o i = r := (hW.2 o i h).trans hr
/-! readings, step by step -/
section RD
variable {α β : Type} {S : GS} {o c i k n : Nat}
theorem rn_s {g : Nat → Option α} (h : gk S o = c) : rn (some o) c S g = g o := if_pos h
theorem xI_s {g : Int32 → Option α} (h : gk S o = c) : xI (some o) c i S g = g (S.1 o i) := if_pos h
theorem xJ_s {g : Int64 → Option α} (h : gk S o = c) : xJ (some o) c i S g = g (S.2.1 o i) := if_pos h
theorem xR_s {g : Option Nat → Option α} (h : gk S o = c) : xR (some o) c i S g = g (S.2.2.1 o i) := if_pos h
theorem xR_w {g : Option Nat → Option α} (hW : Wr S) (ho : o < 343) (hc : kd o = c) (hn : ¬ (o = 230 ∧ i = 8)) {r : Option Nat} (hr : gRf o i = r) : xR (some o) c i S g = g r := by rw [xR_s (gk_n hW ho hc), rf_n hW hn hr]
theorem xI_w {g : Int32 → Option α} (hW : Wr S) (ho : o < 343) (hc : kd o = c) : xI (some o) c i S g = g (S.1 o i) := xI_s (gk_n hW ho hc)
theorem xJ_w {g : Int64 → Option α} (hW : Wr S) (ho : o < 343) (hc : kd o = c) : xJ (some o) c i S g = g (S.2.1 o i) := xJ_s (gk_n hW ho hc)
theorem xl_s {g : Int32 → Option α} (h : gk S o = c) : xl (some o) c S g = g (nI (ln o)) := if_pos h
theorem xl_w {g : Int32 → Option α} (hW : Wr S) (ho : o < 343) (hc : kd o = c) {n : Nat} (hl : ln o = n) : xl (some o) c S g = g (nI n) := by rw [xl_s (gk_n hW ho hc), hl]
theorem ix_n {g : Nat → Option α} (h : k < n) (hn : k < 2 ^ 31) : ix (nI k) n g = g k := by
  unfold ix
  rw [if_neg, nI_clamp hn]
  rintro (q | q)
  · exact nI_pos hn q
  · rw [nI_clamp hn] at q
    omega
theorem ix_j {j : Int32} {g : Nat → Option α} (h0 : ¬ j < 0) (h : j.toNatClampNeg < n) : ix j n g = g j.toNatClampNeg := by
  unfold ix
  rw [if_neg]
  rintro (q | q)
  · exact h0 q
  · omega
theorem yI_n {g : Int32 → Option α} (h : gk S o = c) (hk : k < ln o) (hn : k < 2 ^ 31) : yI (some o) c (nI k) S g = g (S.1 o k) := (if_pos h).trans (ix_n hk hn)
theorem yJ_n {g : Int64 → Option α} (h : gk S o = 15) (hk : k < ln o) (hn : k < 2 ^ 31) : yJ (some o) (nI k) S g = g (S.2.1 o k) := (if_pos h).trans (ix_n hk hn)
theorem yR_n {g : Option Nat → Option α} (h : gk S o = c) (hk : k < ln o) (hn : k < 2 ^ 31) : yR (some o) c (nI k) S g = g (S.2.2.1 o k) := (if_pos h).trans (ix_n hk hn)
theorem qI_n {v : Int32} {g : GS → Option α} (h : gk S o = 14) (hk : k < ln o) (hn : k < 2 ^ 31) : qI (some o) (nI k) v S g = g (sI S o k v) := (if_pos h).trans (ix_n hk hn)
theorem qJ_n {v : Int64} {g : GS → Option α} (h : gk S o = 15) (hk : k < ln o) (hn : k < 2 ^ 31) : qJ (some o) (nI k) v S g = g (sJ S o k v) := (if_pos h).trans (ix_n hk hn)
theorem qZ_n {v : Int32} {g : GS → Option α} (h : gk S o = 16) (hk : k < ln o) (hn : k < 2 ^ 31) : qZ (some o) (nI k) v S g = g (sI S o k (v &&& 1)) := (if_pos h).trans (ix_n hk hn)
theorem qB_n {v : Int32} {g : GS → Option α} (h : gk S o = 13) (hk : k < ln o) (hn : k < 2 ^ 31) : qB (some o) (nI k) v S g = g (sI S o k v.toInt8.toInt32) := (if_pos h).trans (ix_n hk hn)
theorem yI_w {g : Int32 → Option α} (hW : Wr S) (ho : o < 343) (hc : kd o = c) {n : Nat} (hl : ln o = n) (hk : k < n) (hn : k < 2 ^ 31) : yI (some o) c (nI k) S g = g (S.1 o k) := yI_n (gk_n hW ho hc) (by rw [hl]; exact hk) hn
theorem yJ_w {g : Int64 → Option α} (hW : Wr S) (ho : o < 343) (hc : kd o = 15) {n : Nat} (hl : ln o = n) (hk : k < n) (hn : k < 2 ^ 31) : yJ (some o) (nI k) S g = g (S.2.1 o k) := yJ_n (gk_n hW ho hc) (by rw [hl]; exact hk) hn
theorem qI_w {v : Int32} {g : GS → Option α} (hW : Wr S) (ho : o < 343) (hc : kd o = 14) {n : Nat} (hl : ln o = n) (hk : k < n) (hn : k < 2 ^ 31) : qI (some o) (nI k) v S g = g (sI S o k v) := qI_n (gk_n hW ho hc) (by rw [hl]; exact hk) hn
theorem qJ_w {v : Int64} {g : GS → Option α} (hW : Wr S) (ho : o < 343) (hc : kd o = 15) {n : Nat} (hl : ln o = n) (hk : k < n) (hn : k < 2 ^ 31) : qJ (some o) (nI k) v S g = g (sJ S o k v) := qJ_n (gk_n hW ho hc) (by rw [hl]; exact hk) hn
theorem qZ_w {v : Int32} {g : GS → Option α} (hW : Wr S) (ho : o < 343) (hc : kd o = 16) {n : Nat} (hl : ln o = n) (hk : k < n) (hn : k < 2 ^ 31) : qZ (some o) (nI k) v S g = g (sI S o k (v &&& 1)) := qZ_n (gk_n hW ho hc) (by rw [hl]; exact hk) hn
theorem qB_w {v : Int32} {g : GS → Option α} (hW : Wr S) (ho : o < 343) (hc : kd o = 13) {n : Nat} (hl : ln o = n) (hk : k < n) (hn : k < 2 ^ 31) : qB (some o) (nI k) v S g = g (sI S o k v.toInt8.toInt32) := qB_n (gk_n hW ho hc) (by rw [hl]; exact hk) hn
theorem pI_s {v : Int32} {g : GS → Option α} (h : gk S o = c) : pI (some o) c i v S g = g (sI S o i v) := if_pos h
theorem pJ_s {v : Int64} {g : GS → Option α} (h : gk S o = c) : pJ (some o) c i v S g = g (sJ S o i v) := if_pos h
theorem pR_s {v : Option Nat} {g : GS → Option α} (h : gk S o = c) : pR (some o) c i v S g = g (sR S o i v) := if_pos h
theorem pI_w {v : Int32} {g : GS → Option α} (hW : Wr S) (ho : o < 343) (hc : kd o = c) : pI (some o) c i v S g = g (sI S o i v) := pI_s (gk_n hW ho hc)
theorem pJ_w {v : Int64} {g : GS → Option α} (hW : Wr S) (ho : o < 343) (hc : kd o = c) : pJ (some o) c i v S g = g (sJ S o i v) := pJ_s (gk_n hW ho hc)
theorem b1_s {b : β} {g : β → Option α} : b1 (some b) g = g b := rfl
theorem b2_s {b : β} {S1 : GS} {g : β → GS → Option α} : b2 (some (b, S1)) g = g b S1 := rfl
theorem c1_s {f : Nat → Option β} {g : β → Option α} (h : gk S o = c) : c1 (some o) c S f g = b1 (f o) g := if_pos h
theorem c1_w {f : Nat → Option β} {g : β → Option α} (hW : Wr S) (ho : o < 343) (hc : kd o = c) : c1 (some o) c S f g = b1 (f o) g := c1_s (gk_n hW ho hc)
theorem c2_s {f : Nat → Option (β × GS)} {g : β → GS → Option α} (h : gk S o = c) : c2 (some o) c S f g = b2 (f o) g := if_pos h
theorem c2_w {f : Nat → Option (β × GS)} {g : β → GS → Option α} (hW : Wr S) (ho : o < 343) (hc : kd o = c) : c2 (some o) c S f g = b2 (f o) g := c2_s (gk_n hW ho hc)
theorem c1_v {f : Nat → Option β} {g : β → Option α} {b : β} (hW : Wr S) (ho : o < 343) (hc : kd o = c) (hf : f o = some b) : c1 (some o) c S f g = g b := by rw [c1_w hW ho hc, hf]; rfl
theorem c1_e {f : Nat → Option β} {g : β → Option α} {b : β} (h : gk S o = c) (hf : f o = some b) : c1 (some o) c S f g = g b := by rw [c1_s h, hf]; rfl
theorem nul_n {A C : Option α} : nul none A C = A := rfl
theorem nul_s {A C : Option α} : nul (some o) A C = C := rfl
end RD
theorem nI_mul (a b : Nat) : nI a * nI b = nI (a * b) := (Int32.ofNat_mul a b).symm
theorem nI_lit (a : Nat) : (OfNat.ofNat a : Int32) = nI a := rfl
theorem nI_sub {a b : Nat} (h : b ≤ a) : nI a - nI b = nI (a - b) := by
  have : nI a = nI (a - b) + nI b := by rw [nI_add, Nat.sub_add_cancel h]
  rw [this]
  exact Int32.add_sub_cancel _ _
/-! rows -/
def nr (S : GS) (o : Nat) : Nat := (S.1 o 3).toNatClampNeg
/-- a row list: its object, the most rows, its width -/
def Rw (S : GS) (o m w : Nat) : Prop := gk S o = 7 ∧ gk S (o + 1) = 14 ∧ ln (o + 1) = m * w ∧ S.2.2.1 o 2 = some (o + 1) ∧ S.1 o 0 = nI m ∧ S.1 o 1 = nI w ∧ S.1 o 3 = nI (nr S o) ∧ nr S o ≤ m ∧ m ≤ 40 ∧ w ≤ 5
section RW
variable {S : GS} {o m w : Nat}
theorem Rw.has (h : Rw S o m w) {k : Nat} (hk : k < 2 ^ 31) : f_X7_has o (nI k) S = some (if k < nr S o then 1 else 0) := by
  obtain ⟨h1, h2, h3, h4, h5, h6, h7, h8, h9, h10⟩ := h
  unfold f_X7_has
  rw [if_neg (nI_pos hk), xI_s h1, h7]
  by_cases q : k < nr S o
  · rw [if_pos q, if_neg (by rw [nI_leI (by omega) (by omega)]; omega)]
  · rw [if_neg q, if_pos (by rw [nI_leI (by omega) (by omega)]; omega)]
theorem Rw.hasN (h : Rw S o m w) {x : Int32} (hx : x < 0) : f_X7_has o x S = some 0 := by
  unfold f_X7_has
  rw [if_pos hx]
theorem Rw.cell (h : Rw S o m w) {k i : Nat} (hk : k < nr S o) (hi : i < w) : f_X7_cell o (nI k) (nI i) S = some (S.1 (o + 1) (w * k + i)) := by
  obtain ⟨h1, h2, h3, h4, h5, h6, h7, h8, h9, h10⟩ := h
  have hb : k * w + i < m * w := by
    have := Nat.mul_le_mul_right w (show k + 1 ≤ m by omega)
    rw [Nat.succ_mul] at this
    omega
  have hb2 : m * w ≤ 40 * 5 := Nat.mul_le_mul h9 h10
  unfold f_X7_cell
  rw [if_neg (nI_pos (by omega)), xI_s h1, h7, if_neg (by rw [nI_leI (by omega) (by omega)]; omega), if_neg (nI_pos (by omega)), xI_s h1, h6, if_pos (by rw [nI_ltI (by omega) (by omega)]; omega), xR_s h1, xI_s h1, h4, h6, nI_mul, nI_add, yI_n h2 (by omega) (by omega), Nat.mul_comm k w]
theorem Rw.cellO (h : Rw S o m w) {k : Nat} (hk : k < 2 ^ 31) (hn : nr S o ≤ k) {c : Int32} : f_X7_cell o (nI k) c S = some (-1) := by
  obtain ⟨h1, h2, h3, h4, h5, h6, h7, h8, h9, h10⟩ := h
  unfold f_X7_cell
  rw [if_neg (nI_pos hk), xI_s h1, h7, if_pos (by rw [nI_leI (by omega) (by omega)]; omega)]
theorem Rw.cellN (h : Rw S o m w) {x c : Int32} (hx : x < 0) : f_X7_cell o x c S = some (-1) := by
  unfold f_X7_cell
  rw [if_pos hx]
theorem Rw.cellC (h : Rw S o m w) {k c : Int32} (hc : c < 0 ∨ ∃ i : Nat, i < 2 ^ 31 ∧ w ≤ i ∧ c = nI i) : f_X7_cell o k c S = some (-1) := by
  obtain ⟨h1, h2, h3, h4, h5, h6, h7, h8, h9, h10⟩ := h
  unfold f_X7_cell
  split
  · rfl
  · rw [xI_s h1]
    split
    · rfl
    · rcases hc with hc | ⟨i, hi, hw, rfl⟩
      · rw [if_pos hc]
      · rw [if_neg (nI_pos hi), xI_s h1, h6, if_neg (by rw [nI_ltI (by omega) (by omega)]; omega)]
end RW
section OB
variable {α β : Type} {S : GS} {i k : Nat}
theorem i_0 (hW : Wr S) {g : Int32 → Option α} : xI (some 0) 11 i S g = g (S.1 0 i) := xI_w hW (by decide) rfl
theorem p_0 (hW : Wr S) {v : Int32} {g : GS → Option α} : pI (some 0) 11 i v S g = g (sI S 0 i v) := pI_w hW (by decide) rfl
theorem j_0 (hW : Wr S) {g : Int64 → Option α} : xJ (some 0) 11 i S g = g (S.2.1 0 i) := xJ_w hW (by decide) rfl
theorem pj_0 (hW : Wr S) {v : Int64} {g : GS → Option α} : pJ (some 0) 11 i v S g = g (sJ S 0 i v) := pJ_w hW (by decide) rfl
theorem k_0 (hW : Wr S) {f : Nat → Option β} {g : β → Option α} : c1 (some 0) 11 S f g = b1 (f 0) g := c1_w hW (by decide) rfl
theorem kk_0 (hW : Wr S) {f : Nat → Option (β × GS)} {g : β → GS → Option α} : c2 (some 0) 11 S f g = b2 (f 0) g := c2_w hW (by decide) rfl
theorem r_0_0 (hW : Wr S) {g : Option Nat → Option α} : xR (some 0) 11 0 S g = g (some 1) := xR_w hW (by decide) rfl (by decide) rfl
theorem r_0_1 (hW : Wr S) {g : Option Nat → Option α} : xR (some 0) 11 1 S g = g (some 52) := xR_w hW (by decide) rfl (by decide) rfl
theorem r_0_2 (hW : Wr S) {g : Option Nat → Option α} : xR (some 0) 11 2 S g = g (some 206) := xR_w hW (by decide) rfl (by decide) rfl
theorem r_0_3 (hW : Wr S) {g : Option Nat → Option α} : xR (some 0) 11 3 S g = g (some 207) := xR_w hW (by decide) rfl (by decide) rfl
theorem r_0_4 (hW : Wr S) {g : Option Nat → Option α} : xR (some 0) 11 4 S g = g (some 230) := xR_w hW (by decide) rfl (by decide) rfl
theorem r_0_5 (hW : Wr S) {g : Option Nat → Option α} : xR (some 0) 11 5 S g = g (some 247) := xR_w hW (by decide) rfl (by decide) rfl
theorem r_0_6 (hW : Wr S) {g : Option Nat → Option α} : xR (some 0) 11 6 S g = g (some 268) := xR_w hW (by decide) rfl (by decide) rfl
theorem r_0_7 (hW : Wr S) {g : Option Nat → Option α} : xR (some 0) 11 7 S g = g (some 271) := xR_w hW (by decide) rfl (by decide) rfl
theorem r_0_8 (hW : Wr S) {g : Option Nat → Option α} : xR (some 0) 11 8 S g = g (some 308) := xR_w hW (by decide) rfl (by decide) rfl
theorem r_0_9 (hW : Wr S) {g : Option Nat → Option α} : xR (some 0) 11 9 S g = g (some 311) := xR_w hW (by decide) rfl (by decide) rfl
theorem i_1 (hW : Wr S) {g : Int32 → Option α} : xI (some 1) 9 i S g = g (S.1 1 i) := xI_w hW (by decide) rfl
theorem p_1 (hW : Wr S) {v : Int32} {g : GS → Option α} : pI (some 1) 9 i v S g = g (sI S 1 i v) := pI_w hW (by decide) rfl
theorem j_1 (hW : Wr S) {g : Int64 → Option α} : xJ (some 1) 9 i S g = g (S.2.1 1 i) := xJ_w hW (by decide) rfl
theorem pj_1 (hW : Wr S) {v : Int64} {g : GS → Option α} : pJ (some 1) 9 i v S g = g (sJ S 1 i v) := pJ_w hW (by decide) rfl
theorem k_1 (hW : Wr S) {f : Nat → Option β} {g : β → Option α} : c1 (some 1) 9 S f g = b1 (f 1) g := c1_w hW (by decide) rfl
theorem kk_1 (hW : Wr S) {f : Nat → Option (β × GS)} {g : β → GS → Option α} : c2 (some 1) 9 S f g = b2 (f 1) g := c2_w hW (by decide) rfl
theorem r_1_0 (hW : Wr S) {g : Option Nat → Option α} : xR (some 1) 9 0 S g = g (some 2) := xR_w hW (by decide) rfl (by decide) rfl
theorem r_1_1 (hW : Wr S) {g : Option Nat → Option α} : xR (some 1) 9 1 S g = g (some 3) := xR_w hW (by decide) rfl (by decide) rfl
theorem r_1_2 (hW : Wr S) {g : Option Nat → Option α} : xR (some 1) 9 2 S g = g (some 4) := xR_w hW (by decide) rfl (by decide) rfl
theorem r_1_3 (hW : Wr S) {g : Option Nat → Option α} : xR (some 1) 9 3 S g = g (some 5) := xR_w hW (by decide) rfl (by decide) rfl
theorem r_1_4 (hW : Wr S) {g : Option Nat → Option α} : xR (some 1) 9 4 S g = g (some 6) := xR_w hW (by decide) rfl (by decide) rfl
theorem r_1_5 (hW : Wr S) {g : Option Nat → Option α} : xR (some 1) 9 5 S g = g (some 7) := xR_w hW (by decide) rfl (by decide) rfl
theorem r_1_6 (hW : Wr S) {g : Option Nat → Option α} : xR (some 1) 9 6 S g = g (some 8) := xR_w hW (by decide) rfl (by decide) rfl
theorem r_1_7 (hW : Wr S) {g : Option Nat → Option α} : xR (some 1) 9 7 S g = g (some 9) := xR_w hW (by decide) rfl (by decide) rfl
theorem i_207 (hW : Wr S) {g : Int32 → Option α} : xI (some 207) 5 i S g = g (S.1 207 i) := xI_w hW (by decide) rfl
theorem p_207 (hW : Wr S) {v : Int32} {g : GS → Option α} : pI (some 207) 5 i v S g = g (sI S 207 i v) := pI_w hW (by decide) rfl
theorem j_207 (hW : Wr S) {g : Int64 → Option α} : xJ (some 207) 5 i S g = g (S.2.1 207 i) := xJ_w hW (by decide) rfl
theorem pj_207 (hW : Wr S) {v : Int64} {g : GS → Option α} : pJ (some 207) 5 i v S g = g (sJ S 207 i v) := pJ_w hW (by decide) rfl
theorem k_207 (hW : Wr S) {f : Nat → Option β} {g : β → Option α} : c1 (some 207) 5 S f g = b1 (f 207) g := c1_w hW (by decide) rfl
theorem kk_207 (hW : Wr S) {f : Nat → Option (β × GS)} {g : β → GS → Option α} : c2 (some 207) 5 S f g = b2 (f 207) g := c2_w hW (by decide) rfl
theorem r_207_0 (hW : Wr S) {g : Option Nat → Option α} : xR (some 207) 5 0 S g = g (some 208) := xR_w hW (by decide) rfl (by decide) rfl
theorem r_207_1 (hW : Wr S) {g : Option Nat → Option α} : xR (some 207) 5 1 S g = g (some 209) := xR_w hW (by decide) rfl (by decide) rfl
theorem r_207_2 (hW : Wr S) {g : Option Nat → Option α} : xR (some 207) 5 2 S g = g (some 217) := xR_w hW (by decide) rfl (by decide) rfl
theorem r_207_3 (hW : Wr S) {g : Option Nat → Option α} : xR (some 207) 5 3 S g = g (some 222) := xR_w hW (by decide) rfl (by decide) rfl
theorem r_207_4 (hW : Wr S) {g : Option Nat → Option α} : xR (some 207) 5 4 S g = g (some 224) := xR_w hW (by decide) rfl (by decide) rfl
theorem r_207_5 (hW : Wr S) {g : Option Nat → Option α} : xR (some 207) 5 5 S g = g (some 226) := xR_w hW (by decide) rfl (by decide) rfl
theorem r_207_6 (hW : Wr S) {g : Option Nat → Option α} : xR (some 207) 5 6 S g = g (some 228) := xR_w hW (by decide) rfl (by decide) rfl
theorem i_230 (hW : Wr S) {g : Int32 → Option α} : xI (some 230) 2 i S g = g (S.1 230 i) := xI_w hW (by decide) rfl
theorem p_230 (hW : Wr S) {v : Int32} {g : GS → Option α} : pI (some 230) 2 i v S g = g (sI S 230 i v) := pI_w hW (by decide) rfl
theorem j_230 (hW : Wr S) {g : Int64 → Option α} : xJ (some 230) 2 i S g = g (S.2.1 230 i) := xJ_w hW (by decide) rfl
theorem pj_230 (hW : Wr S) {v : Int64} {g : GS → Option α} : pJ (some 230) 2 i v S g = g (sJ S 230 i v) := pJ_w hW (by decide) rfl
theorem k_230 (hW : Wr S) {f : Nat → Option β} {g : β → Option α} : c1 (some 230) 2 S f g = b1 (f 230) g := c1_w hW (by decide) rfl
theorem kk_230 (hW : Wr S) {f : Nat → Option (β × GS)} {g : β → GS → Option α} : c2 (some 230) 2 S f g = b2 (f 230) g := c2_w hW (by decide) rfl
theorem r_230_0 (hW : Wr S) {g : Option Nat → Option α} : xR (some 230) 2 0 S g = g (some 231) := xR_w hW (by decide) rfl (by decide) rfl
theorem r_230_1 (hW : Wr S) {g : Option Nat → Option α} : xR (some 230) 2 1 S g = g (some 232) := xR_w hW (by decide) rfl (by decide) rfl
theorem r_230_2 (hW : Wr S) {g : Option Nat → Option α} : xR (some 230) 2 2 S g = g (some 233) := xR_w hW (by decide) rfl (by decide) rfl
theorem r_230_3 (hW : Wr S) {g : Option Nat → Option α} : xR (some 230) 2 3 S g = g (some 234) := xR_w hW (by decide) rfl (by decide) rfl
theorem r_230_4 (hW : Wr S) {g : Option Nat → Option α} : xR (some 230) 2 4 S g = g (some 235) := xR_w hW (by decide) rfl (by decide) rfl
theorem r_230_5 (hW : Wr S) {g : Option Nat → Option α} : xR (some 230) 2 5 S g = g (some 236) := xR_w hW (by decide) rfl (by decide) rfl
theorem r_230_6 (hW : Wr S) {g : Option Nat → Option α} : xR (some 230) 2 6 S g = g (some 237) := xR_w hW (by decide) rfl (by decide) rfl
theorem r_230_7 (hW : Wr S) {g : Option Nat → Option α} : xR (some 230) 2 7 S g = g (some 238) := xR_w hW (by decide) rfl (by decide) rfl
theorem i_247 (hW : Wr S) {g : Int32 → Option α} : xI (some 247) 3 i S g = g (S.1 247 i) := xI_w hW (by decide) rfl
theorem p_247 (hW : Wr S) {v : Int32} {g : GS → Option α} : pI (some 247) 3 i v S g = g (sI S 247 i v) := pI_w hW (by decide) rfl
theorem j_247 (hW : Wr S) {g : Int64 → Option α} : xJ (some 247) 3 i S g = g (S.2.1 247 i) := xJ_w hW (by decide) rfl
theorem pj_247 (hW : Wr S) {v : Int64} {g : GS → Option α} : pJ (some 247) 3 i v S g = g (sJ S 247 i v) := pJ_w hW (by decide) rfl
theorem k_247 (hW : Wr S) {f : Nat → Option β} {g : β → Option α} : c1 (some 247) 3 S f g = b1 (f 247) g := c1_w hW (by decide) rfl
theorem kk_247 (hW : Wr S) {f : Nat → Option (β × GS)} {g : β → GS → Option α} : c2 (some 247) 3 S f g = b2 (f 247) g := c2_w hW (by decide) rfl
theorem r_247_0 (hW : Wr S) {g : Option Nat → Option α} : xR (some 247) 3 0 S g = g (some 248) := xR_w hW (by decide) rfl (by decide) rfl
theorem r_247_1 (hW : Wr S) {g : Option Nat → Option α} : xR (some 247) 3 1 S g = g (some 266) := xR_w hW (by decide) rfl (by decide) rfl
theorem r_247_2 (hW : Wr S) {g : Option Nat → Option α} : xR (some 247) 3 2 S g = g (some 267) := xR_w hW (by decide) rfl (by decide) rfl
theorem i_268 (hW : Wr S) {g : Int32 → Option α} : xI (some 268) 4 i S g = g (S.1 268 i) := xI_w hW (by decide) rfl
theorem p_268 (hW : Wr S) {v : Int32} {g : GS → Option α} : pI (some 268) 4 i v S g = g (sI S 268 i v) := pI_w hW (by decide) rfl
theorem j_268 (hW : Wr S) {g : Int64 → Option α} : xJ (some 268) 4 i S g = g (S.2.1 268 i) := xJ_w hW (by decide) rfl
theorem pj_268 (hW : Wr S) {v : Int64} {g : GS → Option α} : pJ (some 268) 4 i v S g = g (sJ S 268 i v) := pJ_w hW (by decide) rfl
theorem k_268 (hW : Wr S) {f : Nat → Option β} {g : β → Option α} : c1 (some 268) 4 S f g = b1 (f 268) g := c1_w hW (by decide) rfl
theorem kk_268 (hW : Wr S) {f : Nat → Option (β × GS)} {g : β → GS → Option α} : c2 (some 268) 4 S f g = b2 (f 268) g := c2_w hW (by decide) rfl
theorem r_268_0 (hW : Wr S) {g : Option Nat → Option α} : xR (some 268) 4 0 S g = g (some 269) := xR_w hW (by decide) rfl (by decide) rfl
theorem r_268_1 (hW : Wr S) {g : Option Nat → Option α} : xR (some 268) 4 1 S g = g (some 270) := xR_w hW (by decide) rfl (by decide) rfl
theorem i_271 (hW : Wr S) {g : Int32 → Option α} : xI (some 271) 10 i S g = g (S.1 271 i) := xI_w hW (by decide) rfl
theorem p_271 (hW : Wr S) {v : Int32} {g : GS → Option α} : pI (some 271) 10 i v S g = g (sI S 271 i v) := pI_w hW (by decide) rfl
theorem j_271 (hW : Wr S) {g : Int64 → Option α} : xJ (some 271) 10 i S g = g (S.2.1 271 i) := xJ_w hW (by decide) rfl
theorem pj_271 (hW : Wr S) {v : Int64} {g : GS → Option α} : pJ (some 271) 10 i v S g = g (sJ S 271 i v) := pJ_w hW (by decide) rfl
theorem k_271 (hW : Wr S) {f : Nat → Option β} {g : β → Option α} : c1 (some 271) 10 S f g = b1 (f 271) g := c1_w hW (by decide) rfl
theorem kk_271 (hW : Wr S) {f : Nat → Option (β × GS)} {g : β → GS → Option α} : c2 (some 271) 10 S f g = b2 (f 271) g := c2_w hW (by decide) rfl
theorem r_271_0 (hW : Wr S) {g : Option Nat → Option α} : xR (some 271) 10 0 S g = g (some 272) := xR_w hW (by decide) rfl (by decide) rfl
theorem r_271_1 (hW : Wr S) {g : Option Nat → Option α} : xR (some 271) 10 1 S g = g (some 290) := xR_w hW (by decide) rfl (by decide) rfl
theorem i_308 (hW : Wr S) {g : Int32 → Option α} : xI (some 308) 1 i S g = g (S.1 308 i) := xI_w hW (by decide) rfl
theorem p_308 (hW : Wr S) {v : Int32} {g : GS → Option α} : pI (some 308) 1 i v S g = g (sI S 308 i v) := pI_w hW (by decide) rfl
theorem j_308 (hW : Wr S) {g : Int64 → Option α} : xJ (some 308) 1 i S g = g (S.2.1 308 i) := xJ_w hW (by decide) rfl
theorem pj_308 (hW : Wr S) {v : Int64} {g : GS → Option α} : pJ (some 308) 1 i v S g = g (sJ S 308 i v) := pJ_w hW (by decide) rfl
theorem k_308 (hW : Wr S) {f : Nat → Option β} {g : β → Option α} : c1 (some 308) 1 S f g = b1 (f 308) g := c1_w hW (by decide) rfl
theorem kk_308 (hW : Wr S) {f : Nat → Option (β × GS)} {g : β → GS → Option α} : c2 (some 308) 1 S f g = b2 (f 308) g := c2_w hW (by decide) rfl
theorem r_308_0 (hW : Wr S) {g : Option Nat → Option α} : xR (some 308) 1 0 S g = g (some 309) := xR_w hW (by decide) rfl (by decide) rfl
theorem r_308_1 (hW : Wr S) {g : Option Nat → Option α} : xR (some 308) 1 1 S g = g (some 310) := xR_w hW (by decide) rfl (by decide) rfl
theorem i_311 (hW : Wr S) {g : Int32 → Option α} : xI (some 311) 6 i S g = g (S.1 311 i) := xI_w hW (by decide) rfl
theorem p_311 (hW : Wr S) {v : Int32} {g : GS → Option α} : pI (some 311) 6 i v S g = g (sI S 311 i v) := pI_w hW (by decide) rfl
theorem j_311 (hW : Wr S) {g : Int64 → Option α} : xJ (some 311) 6 i S g = g (S.2.1 311 i) := xJ_w hW (by decide) rfl
theorem pj_311 (hW : Wr S) {v : Int64} {g : GS → Option α} : pJ (some 311) 6 i v S g = g (sJ S 311 i v) := pJ_w hW (by decide) rfl
theorem k_311 (hW : Wr S) {f : Nat → Option β} {g : β → Option α} : c1 (some 311) 6 S f g = b1 (f 311) g := c1_w hW (by decide) rfl
theorem kk_311 (hW : Wr S) {f : Nat → Option (β × GS)} {g : β → GS → Option α} : c2 (some 311) 6 S f g = b2 (f 311) g := c2_w hW (by decide) rfl
theorem r_311_0 (hW : Wr S) {g : Option Nat → Option α} : xR (some 311) 6 0 S g = g (some 312) := xR_w hW (by decide) rfl (by decide) rfl
theorem i_313 (hW : Wr S) {g : Int32 → Option α} : xI (some 313) 12 i S g = g (S.1 313 i) := xI_w hW (by decide) rfl
theorem p_313 (hW : Wr S) {v : Int32} {g : GS → Option α} : pI (some 313) 12 i v S g = g (sI S 313 i v) := pI_w hW (by decide) rfl
theorem j_313 (hW : Wr S) {g : Int64 → Option α} : xJ (some 313) 12 i S g = g (S.2.1 313 i) := xJ_w hW (by decide) rfl
theorem pj_313 (hW : Wr S) {v : Int64} {g : GS → Option α} : pJ (some 313) 12 i v S g = g (sJ S 313 i v) := pJ_w hW (by decide) rfl
theorem k_313 (hW : Wr S) {f : Nat → Option β} {g : β → Option α} : c1 (some 313) 12 S f g = b1 (f 313) g := c1_w hW (by decide) rfl
theorem kk_313 (hW : Wr S) {f : Nat → Option (β × GS)} {g : β → GS → Option α} : c2 (some 313) 12 S f g = b2 (f 313) g := c2_w hW (by decide) rfl
theorem r_313_1 (hW : Wr S) {g : Option Nat → Option α} : xR (some 313) 12 1 S g = g (some 314) := xR_w hW (by decide) rfl (by decide) rfl
theorem r_313_2 (hW : Wr S) {g : Option Nat → Option α} : xR (some 313) 12 2 S g = g (some 315) := xR_w hW (by decide) rfl (by decide) rfl
theorem r_313_3 (hW : Wr S) {g : Option Nat → Option α} : xR (some 313) 12 3 S g = g (some 316) := xR_w hW (by decide) rfl (by decide) rfl
theorem r_313_4 (hW : Wr S) {g : Option Nat → Option α} : xR (some 313) 12 4 S g = g (some 317) := xR_w hW (by decide) rfl (by decide) rfl
theorem r_313_5 (hW : Wr S) {g : Option Nat → Option α} : xR (some 313) 12 5 S g = g (some 318) := xR_w hW (by decide) rfl (by decide) rfl
theorem r_313_6 (hW : Wr S) {g : Option Nat → Option α} : xR (some 313) 12 6 S g = g (some 319) := xR_w hW (by decide) rfl (by decide) rfl
theorem r_313_7 (hW : Wr S) {g : Option Nat → Option α} : xR (some 313) 12 7 S g = g (some 320) := xR_w hW (by decide) rfl (by decide) rfl
theorem r_313_8 (hW : Wr S) {g : Option Nat → Option α} : xR (some 313) 12 8 S g = g (some 321) := xR_w hW (by decide) rfl (by decide) rfl
theorem r_313_9 (hW : Wr S) {g : Option Nat → Option α} : xR (some 313) 12 9 S g = g (some 322) := xR_w hW (by decide) rfl (by decide) rfl
theorem r_313_10 (hW : Wr S) {g : Option Nat → Option α} : xR (some 313) 12 10 S g = g (some 323) := xR_w hW (by decide) rfl (by decide) rfl
theorem r_313_11 (hW : Wr S) {g : Option Nat → Option α} : xR (some 313) 12 11 S g = g (some 324) := xR_w hW (by decide) rfl (by decide) rfl
theorem r_313_21 (hW : Wr S) {g : Option Nat → Option α} : xR (some 313) 12 21 S g = g (some 325) := xR_w hW (by decide) rfl (by decide) rfl
theorem r_313_22 (hW : Wr S) {g : Option Nat → Option α} : xR (some 313) 12 22 S g = g (some 326) := xR_w hW (by decide) rfl (by decide) rfl
theorem r_313_39 (hW : Wr S) {g : Option Nat → Option α} : xR (some 313) 12 39 S g = g (some 327) := xR_w hW (by decide) rfl (by decide) rfl
theorem r_313_40 (hW : Wr S) {g : Option Nat → Option α} : xR (some 313) 12 40 S g = g (some 328) := xR_w hW (by decide) rfl (by decide) rfl
theorem r_313_41 (hW : Wr S) {g : Option Nat → Option α} : xR (some 313) 12 41 S g = g (some 329) := xR_w hW (by decide) rfl (by decide) rfl
theorem r_313_42 (hW : Wr S) {g : Option Nat → Option α} : xR (some 313) 12 42 S g = g (some 330) := xR_w hW (by decide) rfl (by decide) rfl
theorem r_313_43 (hW : Wr S) {g : Option Nat → Option α} : xR (some 313) 12 43 S g = g (some 331) := xR_w hW (by decide) rfl (by decide) rfl
theorem r_313_44 (hW : Wr S) {g : Option Nat → Option α} : xR (some 313) 12 44 S g = g (some 332) := xR_w hW (by decide) rfl (by decide) rfl
theorem r_313_46 (hW : Wr S) {g : Option Nat → Option α} : xR (some 313) 12 46 S g = g (some 333) := xR_w hW (by decide) rfl (by decide) rfl
theorem r_313_47 (hW : Wr S) {g : Option Nat → Option α} : xR (some 313) 12 47 S g = g (some 334) := xR_w hW (by decide) rfl (by decide) rfl
theorem r_313_48 (hW : Wr S) {g : Option Nat → Option α} : xR (some 313) 12 48 S g = g (some 335) := xR_w hW (by decide) rfl (by decide) rfl
theorem r_313_49 (hW : Wr S) {g : Option Nat → Option α} : xR (some 313) 12 49 S g = g (some 336) := xR_w hW (by decide) rfl (by decide) rfl
theorem r_313_53 (hW : Wr S) {g : Option Nat → Option α} : xR (some 313) 12 53 S g = g (some 337) := xR_w hW (by decide) rfl (by decide) rfl
theorem r_313_54 (hW : Wr S) {g : Option Nat → Option α} : xR (some 313) 12 54 S g = g (some 338) := xR_w hW (by decide) rfl (by decide) rfl
theorem r_313_56 (hW : Wr S) {g : Option Nat → Option α} : xR (some 313) 12 56 S g = g (some 339) := xR_w hW (by decide) rfl (by decide) rfl
theorem r_313_57 (hW : Wr S) {g : Option Nat → Option α} : xR (some 313) 12 57 S g = g (some 340) := xR_w hW (by decide) rfl (by decide) rfl
theorem r_313_58 (hW : Wr S) {g : Option Nat → Option α} : xR (some 313) 12 58 S g = g (some 341) := xR_w hW (by decide) rfl (by decide) rfl
theorem r_313_61 (hW : Wr S) {g : Option Nat → Option α} : xR (some 313) 12 61 S g = g (some 342) := xR_w hW (by decide) rfl (by decide) rfl
theorem y_2 (hW : Wr S) (hk : k < 600) {g : Int32 → Option α} : yI (some 2) 13 (nI k) S g = g (S.1 2 k) := yI_w hW (by decide) rfl (n := 600) rfl hk (by omega)
theorem q_2 (hW : Wr S) (hk : k < 600) {v : Int32} {g : GS → Option α} : qB (some 2) (nI k) v S g = g (sI S 2 k v.toInt8.toInt32) := qB_w hW (by decide) rfl (n := 600) rfl hk (by omega)
theorem l_2 (hW : Wr S) {g : Int32 → Option α} : xl (some 2) 13 S g = g 600 := xl_w hW (by decide) rfl (n := 600) rfl
theorem y_3 (hW : Wr S) (hk : k < 6) {g : Int32 → Option α} : yI (some 3) 14 (nI k) S g = g (S.1 3 k) := yI_w hW (by decide) rfl (n := 6) rfl hk (by omega)
theorem q_3 (hW : Wr S) (hk : k < 6) {v : Int32} {g : GS → Option α} : qI (some 3) (nI k) v S g = g (sI S 3 k v) := qI_w hW (by decide) rfl (n := 6) rfl hk (by omega)
theorem l_3 (hW : Wr S) {g : Int32 → Option α} : xl (some 3) 14 S g = g 6 := xl_w hW (by decide) rfl (n := 6) rfl
theorem y_206 (hW : Wr S) (hk : k < 3) {g : Int32 → Option α} : yI (some 206) 16 (nI k) S g = g (S.1 206 k) := yI_w hW (by decide) rfl (n := 3) rfl hk (by omega)
theorem q_206 (hW : Wr S) (hk : k < 3) {v : Int32} {g : GS → Option α} : qZ (some 206) (nI k) v S g = g (sI S 206 k (v &&& 1)) := qZ_w hW (by decide) rfl (n := 3) rfl hk (by omega)
theorem l_206 (hW : Wr S) {g : Int32 → Option α} : xl (some 206) 16 S g = g 3 := xl_w hW (by decide) rfl (n := 3) rfl
theorem y_208 (hW : Wr S) (hk : k < 600) {g : Int32 → Option α} : yI (some 208) 13 (nI k) S g = g (S.1 208 k) := yI_w hW (by decide) rfl (n := 600) rfl hk (by omega)
theorem q_208 (hW : Wr S) (hk : k < 600) {v : Int32} {g : GS → Option α} : qB (some 208) (nI k) v S g = g (sI S 208 k v.toInt8.toInt32) := qB_w hW (by decide) rfl (n := 600) rfl hk (by omega)
theorem l_208 (hW : Wr S) {g : Int32 → Option α} : xl (some 208) 13 S g = g 600 := xl_w hW (by decide) rfl (n := 600) rfl
theorem y_231 (hW : Wr S) (hk : k < 4) {g : Int32 → Option α} : yI (some 231) 14 (nI k) S g = g (S.1 231 k) := yI_w hW (by decide) rfl (n := 4) rfl hk (by omega)
theorem q_231 (hW : Wr S) (hk : k < 4) {v : Int32} {g : GS → Option α} : qI (some 231) (nI k) v S g = g (sI S 231 k v) := qI_w hW (by decide) rfl (n := 4) rfl hk (by omega)
theorem l_231 (hW : Wr S) {g : Int32 → Option α} : xl (some 231) 14 S g = g 4 := xl_w hW (by decide) rfl (n := 4) rfl
theorem y_232 (hW : Wr S) (hk : k < 4) {g : Int32 → Option α} : yI (some 232) 16 (nI k) S g = g (S.1 232 k) := yI_w hW (by decide) rfl (n := 4) rfl hk (by omega)
theorem q_232 (hW : Wr S) (hk : k < 4) {v : Int32} {g : GS → Option α} : qZ (some 232) (nI k) v S g = g (sI S 232 k (v &&& 1)) := qZ_w hW (by decide) rfl (n := 4) rfl hk (by omega)
theorem l_232 (hW : Wr S) {g : Int32 → Option α} : xl (some 232) 16 S g = g 4 := xl_w hW (by decide) rfl (n := 4) rfl
theorem y_233 (hW : Wr S) (hk : k < 8) {g : Int32 → Option α} : yI (some 233) 14 (nI k) S g = g (S.1 233 k) := yI_w hW (by decide) rfl (n := 8) rfl hk (by omega)
theorem q_233 (hW : Wr S) (hk : k < 8) {v : Int32} {g : GS → Option α} : qI (some 233) (nI k) v S g = g (sI S 233 k v) := qI_w hW (by decide) rfl (n := 8) rfl hk (by omega)
theorem l_233 (hW : Wr S) {g : Int32 → Option α} : xl (some 233) 14 S g = g 8 := xl_w hW (by decide) rfl (n := 8) rfl
theorem y_234 (hW : Wr S) (hk : k < 8) {g : Int32 → Option α} : yI (some 234) 14 (nI k) S g = g (S.1 234 k) := yI_w hW (by decide) rfl (n := 8) rfl hk (by omega)
theorem q_234 (hW : Wr S) (hk : k < 8) {v : Int32} {g : GS → Option α} : qI (some 234) (nI k) v S g = g (sI S 234 k v) := qI_w hW (by decide) rfl (n := 8) rfl hk (by omega)
theorem l_234 (hW : Wr S) {g : Int32 → Option α} : xl (some 234) 14 S g = g 8 := xl_w hW (by decide) rfl (n := 8) rfl
theorem y_235 (hW : Wr S) (hk : k < 8) {g : Int32 → Option α} : yI (some 235) 14 (nI k) S g = g (S.1 235 k) := yI_w hW (by decide) rfl (n := 8) rfl hk (by omega)
theorem q_235 (hW : Wr S) (hk : k < 8) {v : Int32} {g : GS → Option α} : qI (some 235) (nI k) v S g = g (sI S 235 k v) := qI_w hW (by decide) rfl (n := 8) rfl hk (by omega)
theorem l_235 (hW : Wr S) {g : Int32 → Option α} : xl (some 235) 14 S g = g 8 := xl_w hW (by decide) rfl (n := 8) rfl
theorem y_236 (hW : Wr S) (hk : k < 8) {g : Int32 → Option α} : yI (some 236) 16 (nI k) S g = g (S.1 236 k) := yI_w hW (by decide) rfl (n := 8) rfl hk (by omega)
theorem q_236 (hW : Wr S) (hk : k < 8) {v : Int32} {g : GS → Option α} : qZ (some 236) (nI k) v S g = g (sI S 236 k (v &&& 1)) := qZ_w hW (by decide) rfl (n := 8) rfl hk (by omega)
theorem l_236 (hW : Wr S) {g : Int32 → Option α} : xl (some 236) 16 S g = g 8 := xl_w hW (by decide) rfl (n := 8) rfl
theorem y_237 (hW : Wr S) (hk : k < 8) {g : Int32 → Option α} : yI (some 237) 14 (nI k) S g = g (S.1 237 k) := yI_w hW (by decide) rfl (n := 8) rfl hk (by omega)
theorem q_237 (hW : Wr S) (hk : k < 8) {v : Int32} {g : GS → Option α} : qI (some 237) (nI k) v S g = g (sI S 237 k v) := qI_w hW (by decide) rfl (n := 8) rfl hk (by omega)
theorem l_237 (hW : Wr S) {g : Int32 → Option α} : xl (some 237) 14 S g = g 8 := xl_w hW (by decide) rfl (n := 8) rfl
theorem y_238 (hW : Wr S) (hk : k < 8) {g : Int32 → Option α} : yI (some 238) 14 (nI k) S g = g (S.1 238 k) := yI_w hW (by decide) rfl (n := 8) rfl hk (by omega)
theorem q_238 (hW : Wr S) (hk : k < 8) {v : Int32} {g : GS → Option α} : qI (some 238) (nI k) v S g = g (sI S 238 k v) := qI_w hW (by decide) rfl (n := 8) rfl hk (by omega)
theorem l_238 (hW : Wr S) {g : Int32 → Option α} : xl (some 238) 14 S g = g 8 := xl_w hW (by decide) rfl (n := 8) rfl
theorem y_241 (hW : Wr S) (hk : k < 8) {g : Int32 → Option α} : yI (some 241) 14 (nI k) S g = g (S.1 241 k) := yI_w hW (by decide) rfl (n := 8) rfl hk (by omega)
theorem q_241 (hW : Wr S) (hk : k < 8) {v : Int32} {g : GS → Option α} : qI (some 241) (nI k) v S g = g (sI S 241 k v) := qI_w hW (by decide) rfl (n := 8) rfl hk (by omega)
theorem l_241 (hW : Wr S) {g : Int32 → Option α} : xl (some 241) 14 S g = g 8 := xl_w hW (by decide) rfl (n := 8) rfl
theorem y_243 (hW : Wr S) (hk : k < 40) {g : Int32 → Option α} : yI (some 243) 14 (nI k) S g = g (S.1 243 k) := yI_w hW (by decide) rfl (n := 40) rfl hk (by omega)
theorem q_243 (hW : Wr S) (hk : k < 40) {v : Int32} {g : GS → Option α} : qI (some 243) (nI k) v S g = g (sI S 243 k v) := qI_w hW (by decide) rfl (n := 40) rfl hk (by omega)
theorem l_243 (hW : Wr S) {g : Int32 → Option α} : xl (some 243) 14 S g = g 40 := xl_w hW (by decide) rfl (n := 40) rfl
theorem y_245 (hW : Wr S) (hk : k < 12) {g : Int32 → Option α} : yI (some 245) 14 (nI k) S g = g (S.1 245 k) := yI_w hW (by decide) rfl (n := 12) rfl hk (by omega)
theorem q_245 (hW : Wr S) (hk : k < 12) {v : Int32} {g : GS → Option α} : qI (some 245) (nI k) v S g = g (sI S 245 k v) := qI_w hW (by decide) rfl (n := 12) rfl hk (by omega)
theorem l_245 (hW : Wr S) {g : Int32 → Option α} : xl (some 245) 14 S g = g 12 := xl_w hW (by decide) rfl (n := 12) rfl
theorem y_246 (hW : Wr S) (hk : k < 3) {g : Int32 → Option α} : yI (some 246) 14 (nI k) S g = g (S.1 246 k) := yI_w hW (by decide) rfl (n := 3) rfl hk (by omega)
theorem q_246 (hW : Wr S) (hk : k < 3) {v : Int32} {g : GS → Option α} : qI (some 246) (nI k) v S g = g (sI S 246 k v) := qI_w hW (by decide) rfl (n := 3) rfl hk (by omega)
theorem l_246 (hW : Wr S) {g : Int32 → Option α} : xl (some 246) 14 S g = g 3 := xl_w hW (by decide) rfl (n := 3) rfl
theorem y_265 (hW : Wr S) (hk : k < 31) {g : Int32 → Option α} : yI (some 265) 14 (nI k) S g = g (S.1 265 k) := yI_w hW (by decide) rfl (n := 31) rfl hk (by omega)
theorem q_265 (hW : Wr S) (hk : k < 31) {v : Int32} {g : GS → Option α} : qI (some 265) (nI k) v S g = g (sI S 265 k v) := qI_w hW (by decide) rfl (n := 31) rfl hk (by omega)
theorem l_265 (hW : Wr S) {g : Int32 → Option α} : xl (some 265) 14 S g = g 31 := xl_w hW (by decide) rfl (n := 31) rfl
theorem y_266 (hW : Wr S) (hk : k < 527) {g : Int32 → Option α} : yI (some 266) 16 (nI k) S g = g (S.1 266 k) := yI_w hW (by decide) rfl (n := 527) rfl hk (by omega)
theorem q_266 (hW : Wr S) (hk : k < 527) {v : Int32} {g : GS → Option α} : qZ (some 266) (nI k) v S g = g (sI S 266 k (v &&& 1)) := qZ_w hW (by decide) rfl (n := 527) rfl hk (by omega)
theorem l_266 (hW : Wr S) {g : Int32 → Option α} : xl (some 266) 16 S g = g 527 := xl_w hW (by decide) rfl (n := 527) rfl
theorem y_267 (hW : Wr S) (hk : k < 8) {g : Int32 → Option α} : yI (some 267) 14 (nI k) S g = g (S.1 267 k) := yI_w hW (by decide) rfl (n := 8) rfl hk (by omega)
theorem q_267 (hW : Wr S) (hk : k < 8) {v : Int32} {g : GS → Option α} : qI (some 267) (nI k) v S g = g (sI S 267 k v) := qI_w hW (by decide) rfl (n := 8) rfl hk (by omega)
theorem l_267 (hW : Wr S) {g : Int32 → Option α} : xl (some 267) 14 S g = g 8 := xl_w hW (by decide) rfl (n := 8) rfl
theorem y_269 (hW : Wr S) (hk : k < 41) {g : Int64 → Option α} : yJ (some 269) (nI k) S g = g (S.2.1 269 k) := yJ_w hW (by decide) rfl (n := 41) rfl hk (by omega)
theorem q_269 (hW : Wr S) (hk : k < 41) {v : Int64} {g : GS → Option α} : qJ (some 269) (nI k) v S g = g (sJ S 269 k v) := qJ_w hW (by decide) rfl (n := 41) rfl hk (by omega)
theorem l_269 (hW : Wr S) {g : Int32 → Option α} : xl (some 269) 15 S g = g 41 := xl_w hW (by decide) rfl (n := 41) rfl
theorem y_270 (hW : Wr S) (hk : k < 41) {g : Int64 → Option α} : yJ (some 270) (nI k) S g = g (S.2.1 270 k) := yJ_w hW (by decide) rfl (n := 41) rfl hk (by omega)
theorem q_270 (hW : Wr S) (hk : k < 41) {v : Int64} {g : GS → Option α} : qJ (some 270) (nI k) v S g = g (sJ S 270 k v) := qJ_w hW (by decide) rfl (n := 41) rfl hk (by omega)
theorem l_270 (hW : Wr S) {g : Int32 → Option α} : xl (some 270) 15 S g = g 41 := xl_w hW (by decide) rfl (n := 41) rfl
theorem y_291 (hW : Wr S) (hk : k < 41) {g : Int32 → Option α} : yI (some 291) 14 (nI k) S g = g (S.1 291 k) := yI_w hW (by decide) rfl (n := 41) rfl hk (by omega)
theorem q_291 (hW : Wr S) (hk : k < 41) {v : Int32} {g : GS → Option α} : qI (some 291) (nI k) v S g = g (sI S 291 k v) := qI_w hW (by decide) rfl (n := 41) rfl hk (by omega)
theorem l_291 (hW : Wr S) {g : Int32 → Option α} : xl (some 291) 14 S g = g 41 := xl_w hW (by decide) rfl (n := 41) rfl
theorem y_309 (hW : Wr S) (hk : k < 256) {g : Int32 → Option α} : yI (some 309) 14 (nI k) S g = g (S.1 309 k) := yI_w hW (by decide) rfl (n := 256) rfl hk (by omega)
theorem q_309 (hW : Wr S) (hk : k < 256) {v : Int32} {g : GS → Option α} : qI (some 309) (nI k) v S g = g (sI S 309 k v) := qI_w hW (by decide) rfl (n := 256) rfl hk (by omega)
theorem l_309 (hW : Wr S) {g : Int32 → Option α} : xl (some 309) 14 S g = g 256 := xl_w hW (by decide) rfl (n := 256) rfl
theorem y_310 (hW : Wr S) (hk : k < 256) {g : Int32 → Option α} : yI (some 310) 14 (nI k) S g = g (S.1 310 k) := yI_w hW (by decide) rfl (n := 256) rfl hk (by omega)
theorem q_310 (hW : Wr S) (hk : k < 256) {v : Int32} {g : GS → Option α} : qI (some 310) (nI k) v S g = g (sI S 310 k v) := qI_w hW (by decide) rfl (n := 256) rfl hk (by omega)
theorem l_310 (hW : Wr S) {g : Int32 → Option α} : xl (some 310) 14 S g = g 256 := xl_w hW (by decide) rfl (n := 256) rfl
theorem y_312 (hW : Wr S) (hk : k < 31) {g : Int32 → Option α} : yI (some 312) 14 (nI k) S g = g (S.1 312 k) := yI_w hW (by decide) rfl (n := 31) rfl hk (by omega)
theorem q_312 (hW : Wr S) (hk : k < 31) {v : Int32} {g : GS → Option α} : qI (some 312) (nI k) v S g = g (sI S 312 k v) := qI_w hW (by decide) rfl (n := 31) rfl hk (by omega)
theorem l_312 (hW : Wr S) {g : Int32 → Option α} : xl (some 312) 14 S g = g 31 := xl_w hW (by decide) rfl (n := 31) rfl
theorem y_314 (hW : Wr S) (hk : k < 2400) {g : Int32 → Option α} : yI (some 314) 13 (nI k) S g = g (S.1 314 k) := yI_w hW (by decide) rfl (n := 2400) rfl hk (by omega)
theorem q_314 (hW : Wr S) (hk : k < 2400) {v : Int32} {g : GS → Option α} : qB (some 314) (nI k) v S g = g (sI S 314 k v.toInt8.toInt32) := qB_w hW (by decide) rfl (n := 2400) rfl hk (by omega)
theorem l_314 (hW : Wr S) {g : Int32 → Option α} : xl (some 314) 13 S g = g 2400 := xl_w hW (by decide) rfl (n := 2400) rfl
theorem y_315 (hW : Wr S) (hk : k < 4) {g : Int32 → Option α} : yI (some 315) 14 (nI k) S g = g (S.1 315 k) := yI_w hW (by decide) rfl (n := 4) rfl hk (by omega)
theorem q_315 (hW : Wr S) (hk : k < 4) {v : Int32} {g : GS → Option α} : qI (some 315) (nI k) v S g = g (sI S 315 k v) := qI_w hW (by decide) rfl (n := 4) rfl hk (by omega)
theorem l_315 (hW : Wr S) {g : Int32 → Option α} : xl (some 315) 14 S g = g 4 := xl_w hW (by decide) rfl (n := 4) rfl
theorem y_316 (hW : Wr S) (hk : k < 4) {g : Int32 → Option α} : yI (some 316) 14 (nI k) S g = g (S.1 316 k) := yI_w hW (by decide) rfl (n := 4) rfl hk (by omega)
theorem q_316 (hW : Wr S) (hk : k < 4) {v : Int32} {g : GS → Option α} : qI (some 316) (nI k) v S g = g (sI S 316 k v) := qI_w hW (by decide) rfl (n := 4) rfl hk (by omega)
theorem l_316 (hW : Wr S) {g : Int32 → Option α} : xl (some 316) 14 S g = g 4 := xl_w hW (by decide) rfl (n := 4) rfl
theorem y_317 (hW : Wr S) (hk : k < 4) {g : Int32 → Option α} : yI (some 317) 14 (nI k) S g = g (S.1 317 k) := yI_w hW (by decide) rfl (n := 4) rfl hk (by omega)
theorem q_317 (hW : Wr S) (hk : k < 4) {v : Int32} {g : GS → Option α} : qI (some 317) (nI k) v S g = g (sI S 317 k v) := qI_w hW (by decide) rfl (n := 4) rfl hk (by omega)
theorem l_317 (hW : Wr S) {g : Int32 → Option α} : xl (some 317) 14 S g = g 4 := xl_w hW (by decide) rfl (n := 4) rfl
theorem y_318 (hW : Wr S) (hk : k < 24) {g : Int32 → Option α} : yI (some 318) 14 (nI k) S g = g (S.1 318 k) := yI_w hW (by decide) rfl (n := 24) rfl hk (by omega)
theorem q_318 (hW : Wr S) (hk : k < 24) {v : Int32} {g : GS → Option α} : qI (some 318) (nI k) v S g = g (sI S 318 k v) := qI_w hW (by decide) rfl (n := 24) rfl hk (by omega)
theorem l_318 (hW : Wr S) {g : Int32 → Option α} : xl (some 318) 14 S g = g 24 := xl_w hW (by decide) rfl (n := 24) rfl
theorem y_319 (hW : Wr S) (hk : k < 552) {g : Int32 → Option α} : yI (some 319) 14 (nI k) S g = g (S.1 319 k) := yI_w hW (by decide) rfl (n := 552) rfl hk (by omega)
theorem q_319 (hW : Wr S) (hk : k < 552) {v : Int32} {g : GS → Option α} : qI (some 319) (nI k) v S g = g (sI S 319 k v) := qI_w hW (by decide) rfl (n := 552) rfl hk (by omega)
theorem l_319 (hW : Wr S) {g : Int32 → Option α} : xl (some 319) 14 S g = g 552 := xl_w hW (by decide) rfl (n := 552) rfl
theorem y_320 (hW : Wr S) (hk : k < 968) {g : Int32 → Option α} : yI (some 320) 14 (nI k) S g = g (S.1 320 k) := yI_w hW (by decide) rfl (n := 968) rfl hk (by omega)
theorem q_320 (hW : Wr S) (hk : k < 968) {v : Int32} {g : GS → Option α} : qI (some 320) (nI k) v S g = g (sI S 320 k v) := qI_w hW (by decide) rfl (n := 968) rfl hk (by omega)
theorem l_320 (hW : Wr S) {g : Int32 → Option α} : xl (some 320) 14 S g = g 968 := xl_w hW (by decide) rfl (n := 968) rfl
theorem y_321 (hW : Wr S) (hk : k < 136) {g : Int32 → Option α} : yI (some 321) 14 (nI k) S g = g (S.1 321 k) := yI_w hW (by decide) rfl (n := 136) rfl hk (by omega)
theorem q_321 (hW : Wr S) (hk : k < 136) {v : Int32} {g : GS → Option α} : qI (some 321) (nI k) v S g = g (sI S 321 k v) := qI_w hW (by decide) rfl (n := 136) rfl hk (by omega)
theorem l_321 (hW : Wr S) {g : Int32 → Option α} : xl (some 321) 14 S g = g 136 := xl_w hW (by decide) rfl (n := 136) rfl
theorem y_322 (hW : Wr S) (hk : k < 976) {g : Int32 → Option α} : yI (some 322) 14 (nI k) S g = g (S.1 322 k) := yI_w hW (by decide) rfl (n := 976) rfl hk (by omega)
theorem q_322 (hW : Wr S) (hk : k < 976) {v : Int32} {g : GS → Option α} : qI (some 322) (nI k) v S g = g (sI S 322 k v) := qI_w hW (by decide) rfl (n := 976) rfl hk (by omega)
theorem l_322 (hW : Wr S) {g : Int32 → Option α} : xl (some 322) 14 S g = g 976 := xl_w hW (by decide) rfl (n := 976) rfl
theorem y_323 (hW : Wr S) (hk : k < 728) {g : Int32 → Option α} : yI (some 323) 14 (nI k) S g = g (S.1 323 k) := yI_w hW (by decide) rfl (n := 728) rfl hk (by omega)
theorem q_323 (hW : Wr S) (hk : k < 728) {v : Int32} {g : GS → Option α} : qI (some 323) (nI k) v S g = g (sI S 323 k v) := qI_w hW (by decide) rfl (n := 728) rfl hk (by omega)
theorem l_323 (hW : Wr S) {g : Int32 → Option α} : xl (some 323) 14 S g = g 728 := xl_w hW (by decide) rfl (n := 728) rfl
theorem y_324 (hW : Wr S) (hk : k < 168) {g : Int32 → Option α} : yI (some 324) 14 (nI k) S g = g (S.1 324 k) := yI_w hW (by decide) rfl (n := 168) rfl hk (by omega)
theorem q_324 (hW : Wr S) (hk : k < 168) {v : Int32} {g : GS → Option α} : qI (some 324) (nI k) v S g = g (sI S 324 k v) := qI_w hW (by decide) rfl (n := 168) rfl hk (by omega)
theorem l_324 (hW : Wr S) {g : Int32 → Option α} : xl (some 324) 14 S g = g 168 := xl_w hW (by decide) rfl (n := 168) rfl
theorem y_325 (hW : Wr S) (hk : k < 122) {g : Int32 → Option α} : yI (some 325) 14 (nI k) S g = g (S.1 325 k) := yI_w hW (by decide) rfl (n := 122) rfl hk (by omega)
theorem q_325 (hW : Wr S) (hk : k < 122) {v : Int32} {g : GS → Option α} : qI (some 325) (nI k) v S g = g (sI S 325 k v) := qI_w hW (by decide) rfl (n := 122) rfl hk (by omega)
theorem l_325 (hW : Wr S) {g : Int32 → Option α} : xl (some 325) 14 S g = g 122 := xl_w hW (by decide) rfl (n := 122) rfl
theorem y_326 (hW : Wr S) (hk : k < 5) {g : Int32 → Option α} : yI (some 326) 14 (nI k) S g = g (S.1 326 k) := yI_w hW (by decide) rfl (n := 5) rfl hk (by omega)
theorem q_326 (hW : Wr S) (hk : k < 5) {v : Int32} {g : GS → Option α} : qI (some 326) (nI k) v S g = g (sI S 326 k v) := qI_w hW (by decide) rfl (n := 5) rfl hk (by omega)
theorem l_326 (hW : Wr S) {g : Int32 → Option α} : xl (some 326) 14 S g = g 5 := xl_w hW (by decide) rfl (n := 5) rfl
theorem y_327 (hW : Wr S) (hk : k < 4) {g : Int32 → Option α} : yI (some 327) 14 (nI k) S g = g (S.1 327 k) := yI_w hW (by decide) rfl (n := 4) rfl hk (by omega)
theorem q_327 (hW : Wr S) (hk : k < 4) {v : Int32} {g : GS → Option α} : qI (some 327) (nI k) v S g = g (sI S 327 k v) := qI_w hW (by decide) rfl (n := 4) rfl hk (by omega)
theorem l_327 (hW : Wr S) {g : Int32 → Option α} : xl (some 327) 14 S g = g 4 := xl_w hW (by decide) rfl (n := 4) rfl
theorem y_328 (hW : Wr S) (hk : k < 8) {g : Int32 → Option α} : yI (some 328) 14 (nI k) S g = g (S.1 328 k) := yI_w hW (by decide) rfl (n := 8) rfl hk (by omega)
theorem q_328 (hW : Wr S) (hk : k < 8) {v : Int32} {g : GS → Option α} : qI (some 328) (nI k) v S g = g (sI S 328 k v) := qI_w hW (by decide) rfl (n := 8) rfl hk (by omega)
theorem l_328 (hW : Wr S) {g : Int32 → Option α} : xl (some 328) 14 S g = g 8 := xl_w hW (by decide) rfl (n := 8) rfl
theorem y_329 (hW : Wr S) (hk : k < 8) {g : Int32 → Option α} : yI (some 329) 14 (nI k) S g = g (S.1 329 k) := yI_w hW (by decide) rfl (n := 8) rfl hk (by omega)
theorem q_329 (hW : Wr S) (hk : k < 8) {v : Int32} {g : GS → Option α} : qI (some 329) (nI k) v S g = g (sI S 329 k v) := qI_w hW (by decide) rfl (n := 8) rfl hk (by omega)
theorem l_329 (hW : Wr S) {g : Int32 → Option α} : xl (some 329) 14 S g = g 8 := xl_w hW (by decide) rfl (n := 8) rfl
theorem y_330 (hW : Wr S) (hk : k < 8) {g : Int32 → Option α} : yI (some 330) 14 (nI k) S g = g (S.1 330 k) := yI_w hW (by decide) rfl (n := 8) rfl hk (by omega)
theorem q_330 (hW : Wr S) (hk : k < 8) {v : Int32} {g : GS → Option α} : qI (some 330) (nI k) v S g = g (sI S 330 k v) := qI_w hW (by decide) rfl (n := 8) rfl hk (by omega)
theorem l_330 (hW : Wr S) {g : Int32 → Option α} : xl (some 330) 14 S g = g 8 := xl_w hW (by decide) rfl (n := 8) rfl
theorem y_331 (hW : Wr S) (hk : k < 8) {g : Int32 → Option α} : yI (some 331) 14 (nI k) S g = g (S.1 331 k) := yI_w hW (by decide) rfl (n := 8) rfl hk (by omega)
theorem q_331 (hW : Wr S) (hk : k < 8) {v : Int32} {g : GS → Option α} : qI (some 331) (nI k) v S g = g (sI S 331 k v) := qI_w hW (by decide) rfl (n := 8) rfl hk (by omega)
theorem l_331 (hW : Wr S) {g : Int32 → Option α} : xl (some 331) 14 S g = g 8 := xl_w hW (by decide) rfl (n := 8) rfl
theorem y_332 (hW : Wr S) (hk : k < 8) {g : Int32 → Option α} : yI (some 332) 14 (nI k) S g = g (S.1 332 k) := yI_w hW (by decide) rfl (n := 8) rfl hk (by omega)
theorem q_332 (hW : Wr S) (hk : k < 8) {v : Int32} {g : GS → Option α} : qI (some 332) (nI k) v S g = g (sI S 332 k v) := qI_w hW (by decide) rfl (n := 8) rfl hk (by omega)
theorem l_332 (hW : Wr S) {g : Int32 → Option α} : xl (some 332) 14 S g = g 8 := xl_w hW (by decide) rfl (n := 8) rfl
theorem y_333 (hW : Wr S) (hk : k < 527) {g : Int32 → Option α} : yI (some 333) 14 (nI k) S g = g (S.1 333 k) := yI_w hW (by decide) rfl (n := 527) rfl hk (by omega)
theorem q_333 (hW : Wr S) (hk : k < 527) {v : Int32} {g : GS → Option α} : qI (some 333) (nI k) v S g = g (sI S 333 k v) := qI_w hW (by decide) rfl (n := 527) rfl hk (by omega)
theorem l_333 (hW : Wr S) {g : Int32 → Option α} : xl (some 333) 14 S g = g 527 := xl_w hW (by decide) rfl (n := 527) rfl
theorem y_334 (hW : Wr S) (hk : k < 8) {g : Int32 → Option α} : yI (some 334) 14 (nI k) S g = g (S.1 334 k) := yI_w hW (by decide) rfl (n := 8) rfl hk (by omega)
theorem q_334 (hW : Wr S) (hk : k < 8) {v : Int32} {g : GS → Option α} : qI (some 334) (nI k) v S g = g (sI S 334 k v) := qI_w hW (by decide) rfl (n := 8) rfl hk (by omega)
theorem l_334 (hW : Wr S) {g : Int32 → Option α} : xl (some 334) 14 S g = g 8 := xl_w hW (by decide) rfl (n := 8) rfl
theorem y_335 (hW : Wr S) (hk : k < 41) {g : Int64 → Option α} : yJ (some 335) (nI k) S g = g (S.2.1 335 k) := yJ_w hW (by decide) rfl (n := 41) rfl hk (by omega)
theorem q_335 (hW : Wr S) (hk : k < 41) {v : Int64} {g : GS → Option α} : qJ (some 335) (nI k) v S g = g (sJ S 335 k v) := qJ_w hW (by decide) rfl (n := 41) rfl hk (by omega)
theorem l_335 (hW : Wr S) {g : Int32 → Option α} : xl (some 335) 15 S g = g 41 := xl_w hW (by decide) rfl (n := 41) rfl
theorem y_336 (hW : Wr S) (hk : k < 41) {g : Int64 → Option α} : yJ (some 336) (nI k) S g = g (S.2.1 336 k) := yJ_w hW (by decide) rfl (n := 41) rfl hk (by omega)
theorem q_336 (hW : Wr S) (hk : k < 41) {v : Int64} {g : GS → Option α} : qJ (some 336) (nI k) v S g = g (sJ S 336 k v) := qJ_w hW (by decide) rfl (n := 41) rfl hk (by omega)
theorem l_336 (hW : Wr S) {g : Int32 → Option α} : xl (some 336) 15 S g = g 41 := xl_w hW (by decide) rfl (n := 41) rfl
theorem y_337 (hW : Wr S) (hk : k < 697) {g : Int64 → Option α} : yJ (some 337) (nI k) S g = g (S.2.1 337 k) := yJ_w hW (by decide) rfl (n := 697) rfl hk (by omega)
theorem q_337 (hW : Wr S) (hk : k < 697) {v : Int64} {g : GS → Option α} : qJ (some 337) (nI k) v S g = g (sJ S 337 k v) := qJ_w hW (by decide) rfl (n := 697) rfl hk (by omega)
theorem l_337 (hW : Wr S) {g : Int32 → Option α} : xl (some 337) 15 S g = g 697 := xl_w hW (by decide) rfl (n := 697) rfl
theorem y_338 (hW : Wr S) (hk : k < 697) {g : Int64 → Option α} : yJ (some 338) (nI k) S g = g (S.2.1 338 k) := yJ_w hW (by decide) rfl (n := 697) rfl hk (by omega)
theorem q_338 (hW : Wr S) (hk : k < 697) {v : Int64} {g : GS → Option α} : qJ (some 338) (nI k) v S g = g (sJ S 338 k v) := qJ_w hW (by decide) rfl (n := 697) rfl hk (by omega)
theorem l_338 (hW : Wr S) {g : Int32 → Option α} : xl (some 338) 15 S g = g 697 := xl_w hW (by decide) rfl (n := 697) rfl
theorem y_339 (hW : Wr S) (hk : k < 8) {g : Int32 → Option α} : yI (some 339) 14 (nI k) S g = g (S.1 339 k) := yI_w hW (by decide) rfl (n := 8) rfl hk (by omega)
theorem q_339 (hW : Wr S) (hk : k < 8) {v : Int32} {g : GS → Option α} : qI (some 339) (nI k) v S g = g (sI S 339 k v) := qI_w hW (by decide) rfl (n := 8) rfl hk (by omega)
theorem l_339 (hW : Wr S) {g : Int32 → Option α} : xl (some 339) 14 S g = g 8 := xl_w hW (by decide) rfl (n := 8) rfl
theorem y_340 (hW : Wr S) (hk : k < 256) {g : Int32 → Option α} : yI (some 340) 14 (nI k) S g = g (S.1 340 k) := yI_w hW (by decide) rfl (n := 256) rfl hk (by omega)
theorem q_340 (hW : Wr S) (hk : k < 256) {v : Int32} {g : GS → Option α} : qI (some 340) (nI k) v S g = g (sI S 340 k v) := qI_w hW (by decide) rfl (n := 256) rfl hk (by omega)
theorem l_340 (hW : Wr S) {g : Int32 → Option α} : xl (some 340) 14 S g = g 256 := xl_w hW (by decide) rfl (n := 256) rfl
theorem y_341 (hW : Wr S) (hk : k < 256) {g : Int32 → Option α} : yI (some 341) 14 (nI k) S g = g (S.1 341 k) := yI_w hW (by decide) rfl (n := 256) rfl hk (by omega)
theorem q_341 (hW : Wr S) (hk : k < 256) {v : Int32} {g : GS → Option α} : qI (some 341) (nI k) v S g = g (sI S 341 k v) := qI_w hW (by decide) rfl (n := 256) rfl hk (by omega)
theorem l_341 (hW : Wr S) {g : Int32 → Option α} : xl (some 341) 14 S g = g 256 := xl_w hW (by decide) rfl (n := 256) rfl
theorem y_342 (hW : Wr S) (hk : k < 3) {g : Int32 → Option α} : yI (some 342) 16 (nI k) S g = g (S.1 342 k) := yI_w hW (by decide) rfl (n := 3) rfl hk (by omega)
theorem q_342 (hW : Wr S) (hk : k < 3) {v : Int32} {g : GS → Option α} : qZ (some 342) (nI k) v S g = g (sI S 342 k (v &&& 1)) := qZ_w hW (by decide) rfl (n := 3) rfl hk (by omega)
theorem l_342 (hW : Wr S) {g : Int32 → Option α} : xl (some 342) 16 S g = g 3 := xl_w hW (by decide) rfl (n := 3) rfl
end OB
