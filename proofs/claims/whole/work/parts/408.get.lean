/-! the pure part: loads and stores at known places, and the getters -/
variable {S S' : St} {ad : Nat → Nat} {b d j k : Nat} {v : Nat → Int64} {np nf no mo : Nat}
theorem lb7 (t : TR S ad) (hb : BB b) {β : Type} {f : Nat} {k : Int64 → Option β} (hf : f < 7) : ldJ S (ad (b + 7)) (nI f) k = k (gJ S (ad (b + 7)) f) := ldJ_at (by rw [n_b7 t hb]; exact hf) (by rw [n_b7 t hb]; decide)
theorem sb7 (t : TR S ad) (hb : BB b) {β : Type} {f : Nat} {x : Int64} {k : St → Option β} (hf : f < 7) : stJ S (ad (b + 7)) (nI f) x k = k (uJ S (ad (b + 7)) f x) := stJ_at (by rw [n_b7 t hb]; exact hf) (by rw [n_b7 t hb]; decide)
theorem lb8 (t : TR S ad) (hb : BB b) {β : Type} {f : Nat} {k : Int32 → Option β} (hf : f < 4) : ldI S (ad (b + 8)) (nI f) k = k (gI S (ad (b + 8)) f) := ldI_at (by rw [n_b8 t hb]; exact hf) (by rw [n_b8 t hb]; decide)
theorem sb8 (t : TR S ad) (hb : BB b) {β : Type} {f : Nat} {x : Int32} {k : St → Option β} (hf : f < 4) : stI S (ad (b + 8)) (nI f) x k = k (uI S (ad (b + 8)) f x) := stI_at (by rw [n_b8 t hb]; exact hf) (by rw [n_b8 t hb]; decide)
theorem lb9 (t : TR S ad) (hb : BB b) {β : Type} {f : Nat} {k : Int32 → Option β} (hf : f < 4) : ldI S (ad (b + 9)) (nI f) k = k (gI S (ad (b + 9)) f) := ldI_at (by rw [n_b9 t hb]; exact hf) (by rw [n_b9 t hb]; decide)
theorem sb9 (t : TR S ad) (hb : BB b) {β : Type} {f : Nat} {x : Int32} {k : St → Option β} (hf : f < 4) : stI S (ad (b + 9)) (nI f) x k = k (uI S (ad (b + 9)) f x) := stI_at (by rw [n_b9 t hb]; exact hf) (by rw [n_b9 t hb]; decide)
theorem lb10 (t : TR S ad) (hb : BB b) {β : Type} {f : Nat} {k : Int64 → Option β} (hf : f < 20) : ldJ S (ad (b + 10)) (nI f) k = k (gJ S (ad (b + 10)) f) := ldJ_at (by rw [n_b10 t hb]; exact hf) (by rw [n_b10 t hb]; decide)
theorem sb10 (t : TR S ad) (hb : BB b) {β : Type} {f : Nat} {x : Int64} {k : St → Option β} (hf : f < 20) : stJ S (ad (b + 10)) (nI f) x k = k (uJ S (ad (b + 10)) f x) := stJ_at (by rw [n_b10 t hb]; exact hf) (by rw [n_b10 t hb]; decide)
theorem lb11 (t : TR S ad) (hb : BB b) {β : Type} {f : Nat} {k : Int32 → Option β} (hf : f < 20) : ldI S (ad (b + 11)) (nI f) k = k (gI S (ad (b + 11)) f) := ldI_at (by rw [n_b11 t hb]; exact hf) (by rw [n_b11 t hb]; decide)
theorem sb11 (t : TR S ad) (hb : BB b) {β : Type} {f : Nat} {x : Int32} {k : St → Option β} (hf : f < 20) : stI S (ad (b + 11)) (nI f) x k = k (uI S (ad (b + 11)) f x) := stI_at (by rw [n_b11 t hb]; exact hf) (by rw [n_b11 t hb]; decide)
theorem lb12 (t : TR S ad) (hb : BB b) {β : Type} {f : Nat} {k : Int32 → Option β} (hf : f < 900) : ldI S (ad (b + 12)) (nI f) k = k (gI S (ad (b + 12)) f) := ldI_at (by rw [n_b12 t hb]; exact hf) (by rw [n_b12 t hb]; decide)
theorem sb12 (t : TR S ad) (hb : BB b) {β : Type} {f : Nat} {x : Int32} {k : St → Option β} (hf : f < 900) : stI S (ad (b + 12)) (nI f) x k = k (uI S (ad (b + 12)) f x) := stI_at (by rw [n_b12 t hb]; exact hf) (by rw [n_b12 t hb]; decide)
theorem lb13 (t : TR S ad) (hb : BB b) {β : Type} {f : Nat} {k : Int32 → Option β} (hf : f < 900) : ldI S (ad (b + 13)) (nI f) k = k (gI S (ad (b + 13)) f) := ldI_at (by rw [n_b13 t hb]; exact hf) (by rw [n_b13 t hb]; decide)
theorem sb13 (t : TR S ad) (hb : BB b) {β : Type} {f : Nat} {x : Int32} {k : St → Option β} (hf : f < 900) : stI S (ad (b + 13)) (nI f) x k = k (uI S (ad (b + 13)) f x) := stI_at (by rw [n_b13 t hb]; exact hf) (by rw [n_b13 t hb]; decide)
theorem lb14 (t : TR S ad) (hb : BB b) {β : Type} {f : Nat} {k : Int32 → Option β} (hf : f < 900) : ldI S (ad (b + 14)) (nI f) k = k (gI S (ad (b + 14)) f) := ldI_at (by rw [n_b14 t hb]; exact hf) (by rw [n_b14 t hb]; decide)
theorem sb14 (t : TR S ad) (hb : BB b) {β : Type} {f : Nat} {x : Int32} {k : St → Option β} (hf : f < 900) : stI S (ad (b + 14)) (nI f) x k = k (uI S (ad (b + 14)) f x) := stI_at (by rw [n_b14 t hb]; exact hf) (by rw [n_b14 t hb]; decide)
theorem lb15 (t : TR S ad) (hb : BB b) {β : Type} {f : Nat} {k : Int32 → Option β} (hf : f < 16) : ldI S (ad (b + 15)) (nI f) k = k (gI S (ad (b + 15)) f) := ldI_at (by rw [n_b15 t hb]; exact hf) (by rw [n_b15 t hb]; decide)
theorem sb15 (t : TR S ad) (hb : BB b) {β : Type} {f : Nat} {x : Int32} {k : St → Option β} (hf : f < 16) : stI S (ad (b + 15)) (nI f) x k = k (uI S (ad (b + 15)) f x) := stI_at (by rw [n_b15 t hb]; exact hf) (by rw [n_b15 t hb]; decide)
theorem lb16 (t : TR S ad) (hb : BB b) {β : Type} {f : Nat} {k : Int32 → Option β} (hf : f < 16) : ldI S (ad (b + 16)) (nI f) k = k (gI S (ad (b + 16)) f) := ldI_at (by rw [n_b16 t hb]; exact hf) (by rw [n_b16 t hb]; decide)
theorem sb16 (t : TR S ad) (hb : BB b) {β : Type} {f : Nat} {x : Int32} {k : St → Option β} (hf : f < 16) : stI S (ad (b + 16)) (nI f) x k = k (uI S (ad (b + 16)) f x) := stI_at (by rw [n_b16 t hb]; exact hf) (by rw [n_b16 t hb]; decide)
theorem lb17 (t : TR S ad) (hb : BB b) {β : Type} {f : Nat} {k : Int32 → Option β} (hf : f < 16) : ldI S (ad (b + 17)) (nI f) k = k (gI S (ad (b + 17)) f) := ldI_at (by rw [n_b17 t hb]; exact hf) (by rw [n_b17 t hb]; decide)
theorem sb17 (t : TR S ad) (hb : BB b) {β : Type} {f : Nat} {x : Int32} {k : St → Option β} (hf : f < 16) : stI S (ad (b + 17)) (nI f) x k = k (uI S (ad (b + 17)) f x) := stI_at (by rw [n_b17 t hb]; exact hf) (by rw [n_b17 t hb]; decide)
theorem lb18 (t : TR S ad) (hb : BB b) {β : Type} {f : Nat} {k : Int64 → Option β} (hf : f < 16) : ldJ S (ad (b + 18)) (nI f) k = k (gJ S (ad (b + 18)) f) := ldJ_at (by rw [n_b18 t hb]; exact hf) (by rw [n_b18 t hb]; decide)
theorem sb18 (t : TR S ad) (hb : BB b) {β : Type} {f : Nat} {x : Int64} {k : St → Option β} (hf : f < 16) : stJ S (ad (b + 18)) (nI f) x k = k (uJ S (ad (b + 18)) f x) := stJ_at (by rw [n_b18 t hb]; exact hf) (by rw [n_b18 t hb]; decide)
theorem lb19 (t : TR S ad) (hb : BB b) {β : Type} {f : Nat} {k : Int32 → Option β} (hf : f < 80) : ldI S (ad (b + 19)) (nI f) k = k (gI S (ad (b + 19)) f) := ldI_at (by rw [n_b19 t hb]; exact hf) (by rw [n_b19 t hb]; decide)
theorem sb19 (t : TR S ad) (hb : BB b) {β : Type} {f : Nat} {x : Int32} {k : St → Option β} (hf : f < 80) : stI S (ad (b + 19)) (nI f) x k = k (uI S (ad (b + 19)) f x) := stI_at (by rw [n_b19 t hb]; exact hf) (by rw [n_b19 t hb]; decide)
theorem lb20 (t : TR S ad) (hb : BB b) {β : Type} {f : Nat} {k : Int32 → Option β} (hf : f < 8) : ldI S (ad (b + 20)) (nI f) k = k (gI S (ad (b + 20)) f) := ldI_at (by rw [n_b20 t hb]; exact hf) (by rw [n_b20 t hb]; decide)
theorem sb20 (t : TR S ad) (hb : BB b) {β : Type} {f : Nat} {x : Int32} {k : St → Option β} (hf : f < 8) : stI S (ad (b + 20)) (nI f) x k = k (uI S (ad (b + 20)) f x) := stI_at (by rw [n_b20 t hb]; exact hf) (by rw [n_b20 t hb]; decide)
theorem lb21 (t : TR S ad) (hb : BB b) {β : Type} {f : Nat} {k : Int32 → Option β} (hf : f < 8) : ldI S (ad (b + 21)) (nI f) k = k (gI S (ad (b + 21)) f) := ldI_at (by rw [n_b21 t hb]; exact hf) (by rw [n_b21 t hb]; decide)
theorem sb21 (t : TR S ad) (hb : BB b) {β : Type} {f : Nat} {x : Int32} {k : St → Option β} (hf : f < 8) : stI S (ad (b + 21)) (nI f) x k = k (uI S (ad (b + 21)) f x) := stI_at (by rw [n_b21 t hb]; exact hf) (by rw [n_b21 t hb]; decide)
theorem lb22 (t : TR S ad) (hb : BB b) {β : Type} {f : Nat} {k : Int32 → Option β} (hf : f < 8) : ldI S (ad (b + 22)) (nI f) k = k (gI S (ad (b + 22)) f) := ldI_at (by rw [n_b22 t hb]; exact hf) (by rw [n_b22 t hb]; decide)
theorem sb22 (t : TR S ad) (hb : BB b) {β : Type} {f : Nat} {x : Int32} {k : St → Option β} (hf : f < 8) : stI S (ad (b + 22)) (nI f) x k = k (uI S (ad (b + 22)) f x) := stI_at (by rw [n_b22 t hb]; exact hf) (by rw [n_b22 t hb]; decide)
theorem lb23 (t : TR S ad) (hb : BB b) {β : Type} {f : Nat} {k : Int32 → Option β} (hf : f < 8) : ldI S (ad (b + 23)) (nI f) k = k (gI S (ad (b + 23)) f) := ldI_at (by rw [n_b23 t hb]; exact hf) (by rw [n_b23 t hb]; decide)
theorem sb23 (t : TR S ad) (hb : BB b) {β : Type} {f : Nat} {x : Int32} {k : St → Option β} (hf : f < 8) : stI S (ad (b + 23)) (nI f) x k = k (uI S (ad (b + 23)) f x) := stI_at (by rw [n_b23 t hb]; exact hf) (by rw [n_b23 t hb]; decide)
theorem lb24 (t : TR S ad) (hb : BB b) {β : Type} {f : Nat} {k : Int32 → Option β} (hf : f < 8) : ldI S (ad (b + 24)) (nI f) k = k (gI S (ad (b + 24)) f) := ldI_at (by rw [n_b24 t hb]; exact hf) (by rw [n_b24 t hb]; decide)
theorem sb24 (t : TR S ad) (hb : BB b) {β : Type} {f : Nat} {x : Int32} {k : St → Option β} (hf : f < 8) : stI S (ad (b + 24)) (nI f) x k = k (uI S (ad (b + 24)) f x) := stI_at (by rw [n_b24 t hb]; exact hf) (by rw [n_b24 t hb]; decide)
theorem lb25 (t : TR S ad) (hb : BB b) {β : Type} {f : Nat} {k : Int32 → Option β} (hf : f < 8) : ldI S (ad (b + 25)) (nI f) k = k (gI S (ad (b + 25)) f) := ldI_at (by rw [n_b25 t hb]; exact hf) (by rw [n_b25 t hb]; decide)
theorem sb25 (t : TR S ad) (hb : BB b) {β : Type} {f : Nat} {x : Int32} {k : St → Option β} (hf : f < 8) : stI S (ad (b + 25)) (nI f) x k = k (uI S (ad (b + 25)) f x) := stI_at (by rw [n_b25 t hb]; exact hf) (by rw [n_b25 t hb]; decide)
theorem lb26 (t : TR S ad) (hb : BB b) {β : Type} {f : Nat} {k : Int64 → Option β} (hf : f < 8) : ldJ S (ad (b + 26)) (nI f) k = k (gJ S (ad (b + 26)) f) := ldJ_at (by rw [n_b26 t hb]; exact hf) (by rw [n_b26 t hb]; decide)
theorem sb26 (t : TR S ad) (hb : BB b) {β : Type} {f : Nat} {x : Int64} {k : St → Option β} (hf : f < 8) : stJ S (ad (b + 26)) (nI f) x k = k (uJ S (ad (b + 26)) f x) := stJ_at (by rw [n_b26 t hb]; exact hf) (by rw [n_b26 t hb]; decide)
theorem lb27 (t : TR S ad) (hb : BB b) {β : Type} {f : Nat} {k : Int32 → Option β} (hf : f < 8) : ldI S (ad (b + 27)) (nI f) k = k (gI S (ad (b + 27)) f) := ldI_at (by rw [n_b27 t hb]; exact hf) (by rw [n_b27 t hb]; decide)
theorem sb27 (t : TR S ad) (hb : BB b) {β : Type} {f : Nat} {x : Int32} {k : St → Option β} (hf : f < 8) : stI S (ad (b + 27)) (nI f) x k = k (uI S (ad (b + 27)) f x) := stI_at (by rw [n_b27 t hb]; exact hf) (by rw [n_b27 t hb]; decide)
theorem lb28 (t : TR S ad) (hb : BB b) {β : Type} {f : Nat} {k : Int32 → Option β} (hf : f < 8) : ldI S (ad (b + 28)) (nI f) k = k (gI S (ad (b + 28)) f) := ldI_at (by rw [n_b28 t hb]; exact hf) (by rw [n_b28 t hb]; decide)
theorem sb28 (t : TR S ad) (hb : BB b) {β : Type} {f : Nat} {x : Int32} {k : St → Option β} (hf : f < 8) : stI S (ad (b + 28)) (nI f) x k = k (uI S (ad (b + 28)) f x) := stI_at (by rw [n_b28 t hb]; exact hf) (by rw [n_b28 t hb]; decide)
theorem lb29 (t : TR S ad) (hb : BB b) {β : Type} {f : Nat} {k : Int32 → Option β} (hf : f < 8) : ldI S (ad (b + 29)) (nI f) k = k (gI S (ad (b + 29)) f) := ldI_at (by rw [n_b29 t hb]; exact hf) (by rw [n_b29 t hb]; decide)
theorem sb29 (t : TR S ad) (hb : BB b) {β : Type} {f : Nat} {x : Int32} {k : St → Option β} (hf : f < 8) : stI S (ad (b + 29)) (nI f) x k = k (uI S (ad (b + 29)) f x) := stI_at (by rw [n_b29 t hb]; exact hf) (by rw [n_b29 t hb]; decide)
theorem lb30 (t : TR S ad) (hb : BB b) {β : Type} {f : Nat} {k : Int64 → Option β} (hf : f < 8) : ldJ S (ad (b + 30)) (nI f) k = k (gJ S (ad (b + 30)) f) := ldJ_at (by rw [n_b30 t hb]; exact hf) (by rw [n_b30 t hb]; decide)
theorem sb30 (t : TR S ad) (hb : BB b) {β : Type} {f : Nat} {x : Int64} {k : St → Option β} (hf : f < 8) : stJ S (ad (b + 30)) (nI f) x k = k (uJ S (ad (b + 30)) f x) := stJ_at (by rw [n_b30 t hb]; exact hf) (by rw [n_b30 t hb]; decide)
theorem lb31 (t : TR S ad) (hb : BB b) {β : Type} {f : Nat} {k : Int32 → Option β} (hf : f < 8) : ldI S (ad (b + 31)) (nI f) k = k (gI S (ad (b + 31)) f) := ldI_at (by rw [n_b31 t hb]; exact hf) (by rw [n_b31 t hb]; decide)
theorem sb31 (t : TR S ad) (hb : BB b) {β : Type} {f : Nat} {x : Int32} {k : St → Option β} (hf : f < 8) : stI S (ad (b + 31)) (nI f) x k = k (uI S (ad (b + 31)) f x) := stI_at (by rw [n_b31 t hb]; exact hf) (by rw [n_b31 t hb]; decide)
theorem lb32 (t : TR S ad) (hb : BB b) {β : Type} {f : Nat} {k : Int32 → Option β} (hf : f < 8) : ldI S (ad (b + 32)) (nI f) k = k (gI S (ad (b + 32)) f) := ldI_at (by rw [n_b32 t hb]; exact hf) (by rw [n_b32 t hb]; decide)
theorem sb32 (t : TR S ad) (hb : BB b) {β : Type} {f : Nat} {x : Int32} {k : St → Option β} (hf : f < 8) : stI S (ad (b + 32)) (nI f) x k = k (uI S (ad (b + 32)) f x) := stI_at (by rw [n_b32 t hb]; exact hf) (by rw [n_b32 t hb]; decide)
theorem lb33 (t : TR S ad) (hb : BB b) {β : Type} {f : Nat} {k : Int64 → Option β} (hf : f < 480) : ldJ S (ad (b + 33)) (nI f) k = k (gJ S (ad (b + 33)) f) := ldJ_at (by rw [n_b33 t hb]; exact hf) (by rw [n_b33 t hb]; decide)
theorem sb33 (t : TR S ad) (hb : BB b) {β : Type} {f : Nat} {x : Int64} {k : St → Option β} (hf : f < 480) : stJ S (ad (b + 33)) (nI f) x k = k (uJ S (ad (b + 33)) f x) := stJ_at (by rw [n_b33 t hb]; exact hf) (by rw [n_b33 t hb]; decide)
theorem lb34 (t : TR S ad) (hb : BB b) {β : Type} {f : Nat} {k : Int64 → Option β} (hf : f < 3360) : ldJ S (ad (b + 34)) (nI f) k = k (gJ S (ad (b + 34)) f) := ldJ_at (by rw [n_b34 t hb]; exact hf) (by rw [n_b34 t hb]; decide)
theorem sb34 (t : TR S ad) (hb : BB b) {β : Type} {f : Nat} {x : Int64} {k : St → Option β} (hf : f < 3360) : stJ S (ad (b + 34)) (nI f) x k = k (uJ S (ad (b + 34)) f x) := stJ_at (by rw [n_b34 t hb]; exact hf) (by rw [n_b34 t hb]; decide)
theorem lb35 (t : TR S ad) (hb : BB b) {β : Type} {f : Nat} {k : Int64 → Option β} (hf : f < 64) : ldJ S (ad (b + 35)) (nI f) k = k (gJ S (ad (b + 35)) f) := ldJ_at (by rw [n_b35 t hb]; exact hf) (by rw [n_b35 t hb]; decide)
theorem sb35 (t : TR S ad) (hb : BB b) {β : Type} {f : Nat} {x : Int64} {k : St → Option β} (hf : f < 64) : stJ S (ad (b + 35)) (nI f) x k = k (uJ S (ad (b + 35)) f x) := stJ_at (by rw [n_b35 t hb]; exact hf) (by rw [n_b35 t hb]; decide)
theorem lb36 (t : TR S ad) (hb : BB b) {β : Type} {f : Nat} {k : Int64 → Option β} (hf : f < 8) : ldJ S (ad (b + 36)) (nI f) k = k (gJ S (ad (b + 36)) f) := ldJ_at (by rw [n_b36 t hb]; exact hf) (by rw [n_b36 t hb]; decide)
theorem sb36 (t : TR S ad) (hb : BB b) {β : Type} {f : Nat} {x : Int64} {k : St → Option β} (hf : f < 8) : stJ S (ad (b + 36)) (nI f) x k = k (uJ S (ad (b + 36)) f x) := stJ_at (by rw [n_b36 t hb]; exact hf) (by rw [n_b36 t hb]; decide)
theorem lb37 (t : TR S ad) (hb : BB b) {β : Type} {f : Nat} {k : Int64 → Option β} (hf : f < 8) : ldJ S (ad (b + 37)) (nI f) k = k (gJ S (ad (b + 37)) f) := ldJ_at (by rw [n_b37 t hb]; exact hf) (by rw [n_b37 t hb]; decide)
theorem sb37 (t : TR S ad) (hb : BB b) {β : Type} {f : Nat} {x : Int64} {k : St → Option β} (hf : f < 8) : stJ S (ad (b + 37)) (nI f) x k = k (uJ S (ad (b + 37)) f x) := stJ_at (by rw [n_b37 t hb]; exact hf) (by rw [n_b37 t hb]; decide)
theorem lb38 (t : TR S ad) (hb : BB b) {β : Type} {f : Nat} {k : Int64 → Option β} (hf : f < 3) : ldJ S (ad (b + 38)) (nI f) k = k (gJ S (ad (b + 38)) f) := ldJ_at (by rw [n_b38 t hb]; exact hf) (by rw [n_b38 t hb]; decide)
theorem sb38 (t : TR S ad) (hb : BB b) {β : Type} {f : Nat} {x : Int64} {k : St → Option β} (hf : f < 3) : stJ S (ad (b + 38)) (nI f) x k = k (uJ S (ad (b + 38)) f x) := stJ_at (by rw [n_b38 t hb]; exact hf) (by rw [n_b38 t hb]; decide)
theorem lc3 (t : TR S ad) {β : Type} {f : Nat} {k : Int64 → Option β} (hf : f < 20216) : ldJ S (ad 3) (nI f) k = k (gJ S (ad 3) f) := ldJ_at (by rw [n_3 t]; exact hf) (by rw [n_3 t]; decide)
theorem sc3 (t : TR S ad) {β : Type} {f : Nat} {x : Int64} {k : St → Option β} (hf : f < 20216) : stJ S (ad 3) (nI f) x k = k (uJ S (ad 3) f x) := stJ_at (by rw [n_3 t]; exact hf) (by rw [n_3 t]; decide)
theorem lc4 (t : TR S ad) {β : Type} {f : Nat} {k : Int32 → Option β} (hf : f < 2) : ldI S (ad 4) (nI f) k = k (gI S (ad 4) f) := ldI_at (by rw [n_4 t]; exact hf) (by rw [n_4 t]; decide)
theorem sc4 (t : TR S ad) {β : Type} {f : Nat} {x : Int32} {k : St → Option β} (hf : f < 2) : stI S (ad 4) (nI f) x k = k (uI S (ad 4) f x) := stI_at (by rw [n_4 t]; exact hf) (by rw [n_4 t]; decide)
theorem lc5 (t : TR S ad) {β : Type} {f : Nat} {k : Int32 → Option β} (hf : f < 900) : ldI S (ad 5) (nI f) k = k (gI S (ad 5) f) := ldI_at (by rw [n_5 t]; exact hf) (by rw [n_5 t]; decide)
theorem sc5 (t : TR S ad) {β : Type} {f : Nat} {x : Int32} {k : St → Option β} (hf : f < 900) : stI S (ad 5) (nI f) x k = k (uI S (ad 5) f x) := stI_at (by rw [n_5 t]; exact hf) (by rw [n_5 t]; decide)
theorem lc6 (t : TR S ad) {β : Type} {f : Nat} {k : Int32 → Option β} (hf : f < 900) : ldI S (ad 6) (nI f) k = k (gI S (ad 6) f) := ldI_at (by rw [n_6 t]; exact hf) (by rw [n_6 t]; decide)
theorem sc6 (t : TR S ad) {β : Type} {f : Nat} {x : Int32} {k : St → Option β} (hf : f < 900) : stI S (ad 6) (nI f) x k = k (uI S (ad 6) f x) := stI_at (by rw [n_6 t]; exact hf) (by rw [n_6 t]; decide)
theorem lc7 (t : TR S ad) {β : Type} {f : Nat} {k : Int64 → Option β} (hf : f < 7) : ldJ S (ad 7) (nI f) k = k (gJ S (ad 7) f) := ldJ_at (by rw [n_7 t]; exact hf) (by rw [n_7 t]; decide)
theorem sc7 (t : TR S ad) {β : Type} {f : Nat} {x : Int64} {k : St → Option β} (hf : f < 7) : stJ S (ad 7) (nI f) x k = k (uJ S (ad 7) f x) := stJ_at (by rw [n_7 t]; exact hf) (by rw [n_7 t]; decide)
theorem lc8 (t : TR S ad) {β : Type} {f : Nat} {k : Int32 → Option β} (hf : f < 300) : ldI S (ad 8) (nI f) k = k (gI S (ad 8) f) := ldI_at (by rw [n_8 t]; exact hf) (by rw [n_8 t]; decide)
theorem sc8 (t : TR S ad) {β : Type} {f : Nat} {x : Int32} {k : St → Option β} (hf : f < 300) : stI S (ad 8) (nI f) x k = k (uI S (ad 8) f x) := stI_at (by rw [n_8 t]; exact hf) (by rw [n_8 t]; decide)
theorem lc9 (t : TR S ad) {β : Type} {f : Nat} {k : Int32 → Option β} (hf : f < 1500) : ldI S (ad 9) (nI f) k = k (gI S (ad 9) f) := ldI_at (by rw [n_9 t]; exact hf) (by rw [n_9 t]; decide)
theorem sc9 (t : TR S ad) {β : Type} {f : Nat} {x : Int32} {k : St → Option β} (hf : f < 1500) : stI S (ad 9) (nI f) x k = k (uI S (ad 9) f x) := stI_at (by rw [n_9 t]; exact hf) (by rw [n_9 t]; decide)
theorem lc10 (t : TR S ad) {β : Type} {f : Nat} {k : Int32 → Option β} (hf : f < 200) : ldI S (ad 10) (nI f) k = k (gI S (ad 10) f) := ldI_at (by rw [n_10 t]; exact hf) (by rw [n_10 t]; decide)
theorem sc10 (t : TR S ad) {β : Type} {f : Nat} {x : Int32} {k : St → Option β} (hf : f < 200) : stI S (ad 10) (nI f) x k = k (uI S (ad 10) f x) := stI_at (by rw [n_10 t]; exact hf) (by rw [n_10 t]; decide)
theorem lc11 (t : TR S ad) {β : Type} {f : Nat} {k : Int32 → Option β} (hf : f < 200) : ldI S (ad 11) (nI f) k = k (gI S (ad 11) f) := ldI_at (by rw [n_11 t]; exact hf) (by rw [n_11 t]; decide)
theorem sc11 (t : TR S ad) {β : Type} {f : Nat} {x : Int32} {k : St → Option β} (hf : f < 200) : stI S (ad 11) (nI f) x k = k (uI S (ad 11) f x) := stI_at (by rw [n_11 t]; exact hf) (by rw [n_11 t]; decide)
theorem lc13 (t : TR S ad) {β : Type} {f : Nat} {k : Int32 → Option β} (hf : f < 1500) : ldI S (ad 13) (nI f) k = k (gI S (ad 13) f) := ldI_at (by rw [n_13 t]; exact hf) (by rw [n_13 t]; decide)
theorem sc13 (t : TR S ad) {β : Type} {f : Nat} {x : Int32} {k : St → Option β} (hf : f < 1500) : stI S (ad 13) (nI f) x k = k (uI S (ad 13) f x) := stI_at (by rw [n_13 t]; exact hf) (by rw [n_13 t]; decide)
theorem lc15 (t : TR S ad) {β : Type} {f : Nat} {k : Int32 → Option β} (hf : f < 256) : ldI S (ad 15) (nI f) k = k (gI S (ad 15) f) := ldI_at (by rw [n_15 t]; exact hf) (by rw [n_15 t]; decide)
theorem sc15 (t : TR S ad) {β : Type} {f : Nat} {x : Int32} {k : St → Option β} (hf : f < 256) : stI S (ad 15) (nI f) x k = k (uI S (ad 15) f x) := stI_at (by rw [n_15 t]; exact hf) (by rw [n_15 t]; decide)
theorem lc17 (t : TR S ad) {β : Type} {f : Nat} {k : Int32 → Option β} (hf : f < 900) : ldI S (ad 17) (nI f) k = k (gI S (ad 17) f) := ldI_at (by rw [n_17 t]; exact hf) (by rw [n_17 t]; decide)
theorem sc17 (t : TR S ad) {β : Type} {f : Nat} {x : Int32} {k : St → Option β} (hf : f < 900) : stI S (ad 17) (nI f) x k = k (uI S (ad 17) f x) := stI_at (by rw [n_17 t]; exact hf) (by rw [n_17 t]; decide)
theorem lc18 (t : TR S ad) {β : Type} {f : Nat} {k : Int32 → Option β} (hf : f < 900) : ldI S (ad 18) (nI f) k = k (gI S (ad 18) f) := ldI_at (by rw [n_18 t]; exact hf) (by rw [n_18 t]; decide)
theorem sc18 (t : TR S ad) {β : Type} {f : Nat} {x : Int32} {k : St → Option β} (hf : f < 900) : stI S (ad 18) (nI f) x k = k (uI S (ad 18) f x) := stI_at (by rw [n_18 t]; exact hf) (by rw [n_18 t]; decide)
theorem lc19 (t : TR S ad) {β : Type} {f : Nat} {k : Int32 → Option β} (hf : f < 900) : ldI S (ad 19) (nI f) k = k (gI S (ad 19) f) := ldI_at (by rw [n_19 t]; exact hf) (by rw [n_19 t]; decide)
theorem sc19 (t : TR S ad) {β : Type} {f : Nat} {x : Int32} {k : St → Option β} (hf : f < 900) : stI S (ad 19) (nI f) x k = k (uI S (ad 19) f x) := stI_at (by rw [n_19 t]; exact hf) (by rw [n_19 t]; decide)
theorem lc21 (t : TR S ad) {β : Type} {f : Nat} {k : Int32 → Option β} (hf : f < 2) : ldI S (ad 21) (nI f) k = k (gI S (ad 21) f) := ldI_at (by rw [n_21 t]; exact hf) (by rw [n_21 t]; decide)
theorem sc21 (t : TR S ad) {β : Type} {f : Nat} {x : Int32} {k : St → Option β} (hf : f < 2) : stI S (ad 21) (nI f) x k = k (uI S (ad 21) f x) := stI_at (by rw [n_21 t]; exact hf) (by rw [n_21 t]; decide)
theorem lj1 (t : TR S ad) (hj : JB j) {β : Type} {f : Nat} {k : Int32 → Option β} (hf : f < 40) : ldI S (ad (j + 1)) (nI f) k = k (gI S (ad (j + 1)) f) := ldI_at (by rw [n_j1 t hj]; exact hf) (by rw [n_j1 t hj]; decide)
theorem sj1 (t : TR S ad) (hj : JB j) {β : Type} {f : Nat} {x : Int32} {k : St → Option β} (hf : f < 40) : stI S (ad (j + 1)) (nI f) x k = k (uI S (ad (j + 1)) f x) := stI_at (by rw [n_j1 t hj]; exact hf) (by rw [n_j1 t hj]; decide)
theorem lj2 (t : TR S ad) (hj : JB j) {β : Type} {f : Nat} {k : Int32 → Option β} (hf : f < 40) : ldI S (ad (j + 2)) (nI f) k = k (gI S (ad (j + 2)) f) := ldI_at (by rw [n_j2 t hj]; exact hf) (by rw [n_j2 t hj]; decide)
theorem sj2 (t : TR S ad) (hj : JB j) {β : Type} {f : Nat} {x : Int32} {k : St → Option β} (hf : f < 40) : stI S (ad (j + 2)) (nI f) x k = k (uI S (ad (j + 2)) f x) := stI_at (by rw [n_j2 t hj]; exact hf) (by rw [n_j2 t hj]; decide)
theorem lj3 (t : TR S ad) (hj : JB j) {β : Type} {f : Nat} {k : Int32 → Option β} (hf : f < 40) : ldI S (ad (j + 3)) (nI f) k = k (gI S (ad (j + 3)) f) := ldI_at (by rw [n_j3 t hj]; exact hf) (by rw [n_j3 t hj]; decide)
theorem sj3 (t : TR S ad) (hj : JB j) {β : Type} {f : Nat} {x : Int32} {k : St → Option β} (hf : f < 40) : stI S (ad (j + 3)) (nI f) x k = k (uI S (ad (j + 3)) f x) := stI_at (by rw [n_j3 t hj]; exact hf) (by rw [n_j3 t hj]; decide)
theorem lj4 (t : TR S ad) (hj : JB j) {β : Type} {f : Nat} {k : Int32 → Option β} (hf : f < 40) : ldI S (ad (j + 4)) (nI f) k = k (gI S (ad (j + 4)) f) := ldI_at (by rw [n_j4 t hj]; exact hf) (by rw [n_j4 t hj]; decide)
theorem sj4 (t : TR S ad) (hj : JB j) {β : Type} {f : Nat} {x : Int32} {k : St → Option β} (hf : f < 40) : stI S (ad (j + 4)) (nI f) x k = k (uI S (ad (j + 4)) f x) := stI_at (by rw [n_j4 t hj]; exact hf) (by rw [n_j4 t hj]; decide)
theorem lj5 (t : TR S ad) (hj : JB j) {β : Type} {f : Nat} {k : Int32 → Option β} (hf : f < 40) : ldI S (ad (j + 5)) (nI f) k = k (gI S (ad (j + 5)) f) := ldI_at (by rw [n_j5 t hj]; exact hf) (by rw [n_j5 t hj]; decide)
theorem sj5 (t : TR S ad) (hj : JB j) {β : Type} {f : Nat} {x : Int32} {k : St → Option β} (hf : f < 40) : stI S (ad (j + 5)) (nI f) x k = k (uI S (ad (j + 5)) f x) := stI_at (by rw [n_j5 t hj]; exact hf) (by rw [n_j5 t hj]; decide)
theorem lj6 (t : TR S ad) (hj : JB j) {β : Type} {f : Nat} {k : Int32 → Option β} (hf : f < 40) : ldI S (ad (j + 6)) (nI f) k = k (gI S (ad (j + 6)) f) := ldI_at (by rw [n_j6 t hj]; exact hf) (by rw [n_j6 t hj]; decide)
theorem sj6 (t : TR S ad) (hj : JB j) {β : Type} {f : Nat} {x : Int32} {k : St → Option β} (hf : f < 40) : stI S (ad (j + 6)) (nI f) x k = k (uI S (ad (j + 6)) f x) := stI_at (by rw [n_j6 t hj]; exact hf) (by rw [n_j6 t hj]; decide)
theorem lj7 (t : TR S ad) (hj : JB j) {β : Type} {f : Nat} {k : Int64 → Option β} (hf : f < 40) : ldJ S (ad (j + 7)) (nI f) k = k (gJ S (ad (j + 7)) f) := ldJ_at (by rw [n_j7 t hj]; exact hf) (by rw [n_j7 t hj]; decide)
theorem sj7 (t : TR S ad) (hj : JB j) {β : Type} {f : Nat} {x : Int64} {k : St → Option β} (hf : f < 40) : stJ S (ad (j + 7)) (nI f) x k = k (uJ S (ad (j + 7)) f x) := stJ_at (by rw [n_j7 t hj]; exact hf) (by rw [n_j7 t hj]; decide)
theorem M_of0 (h : Mv S ad v np nf no mo) {f : Nat} (hf : f < 8) : f_X12_of S (ad 1) (nI f) 0 = some (v (58 + 16 * f + 0)) := by
  simp only [f_X12_of, lt_e, r_1_0 h.1]
  rw [ldSe h (k := 58 + 16 * f + 0) (by rw [mu16, ad58]; exact nI_add _ 0) (by omega)]
theorem M_of1 (h : Mv S ad v np nf no mo) {f : Nat} (hf : f < 8) : f_X12_of S (ad 1) (nI f) 1 = some (v (58 + 16 * f + 1)) := by
  simp only [f_X12_of, lt_e, r_1_0 h.1]
  rw [ldSe h (k := 58 + 16 * f + 1) (by rw [mu16, ad58]; exact nI_add _ 1) (by omega)]
theorem M_of2 (h : Mv S ad v np nf no mo) {f : Nat} (hf : f < 8) : f_X12_of S (ad 1) (nI f) 2 = some (v (58 + 16 * f + 2)) := by
  simp only [f_X12_of, lt_e, r_1_0 h.1]
  rw [ldSe h (k := 58 + 16 * f + 2) (by rw [mu16, ad58]; exact nI_add _ 2) (by omega)]
theorem M_of3 (h : Mv S ad v np nf no mo) {f : Nat} (hf : f < 8) : f_X12_of S (ad 1) (nI f) 3 = some (v (58 + 16 * f + 3)) := by
  simp only [f_X12_of, lt_e, r_1_0 h.1]
  rw [ldSe h (k := 58 + 16 * f + 3) (by rw [mu16, ad58]; exact nI_add _ 3) (by omega)]
theorem M_of4 (h : Mv S ad v np nf no mo) {f : Nat} (hf : f < 8) : f_X12_of S (ad 1) (nI f) 4 = some (v (58 + 16 * f + 4)) := by
  simp only [f_X12_of, lt_e, r_1_0 h.1]
  rw [ldSe h (k := 58 + 16 * f + 4) (by rw [mu16, ad58]; exact nI_add _ 4) (by omega)]
theorem M_of5 (h : Mv S ad v np nf no mo) {f : Nat} (hf : f < 8) : f_X12_of S (ad 1) (nI f) 5 = some (v (58 + 16 * f + 5)) := by
  simp only [f_X12_of, lt_e, r_1_0 h.1]
  rw [ldSe h (k := 58 + 16 * f + 5) (by rw [mu16, ad58]; exact nI_add _ 5) (by omega)]
theorem M_of6 (h : Mv S ad v np nf no mo) {f : Nat} (hf : f < 8) : f_X12_of S (ad 1) (nI f) 6 = some (v (58 + 16 * f + 6)) := by
  simp only [f_X12_of, lt_e, r_1_0 h.1]
  rw [ldSe h (k := 58 + 16 * f + 6) (by rw [mu16, ad58]; exact nI_add _ 6) (by omega)]
theorem M_of7 (h : Mv S ad v np nf no mo) {f : Nat} (hf : f < 8) : f_X12_of S (ad 1) (nI f) 7 = some (v (58 + 16 * f + 7)) := by
  simp only [f_X12_of, lt_e, r_1_0 h.1]
  rw [ldSe h (k := 58 + 16 * f + 7) (by rw [mu16, ad58]; exact nI_add _ 7) (by omega)]
theorem M_of8 (h : Mv S ad v np nf no mo) {f : Nat} (hf : f < 8) : f_X12_of S (ad 1) (nI f) 8 = some (v (58 + 16 * f + 8)) := by
  simp only [f_X12_of, lt_e, r_1_0 h.1]
  rw [ldSe h (k := 58 + 16 * f + 8) (by rw [mu16, ad58]; exact nI_add _ 8) (by omega)]
theorem M_of9 (h : Mv S ad v np nf no mo) {f : Nat} (hf : f < 8) : f_X12_of S (ad 1) (nI f) 9 = some (v (58 + 16 * f + 9)) := by
  simp only [f_X12_of, lt_e, r_1_0 h.1]
  rw [ldSe h (k := 58 + 16 * f + 9) (by rw [mu16, ad58]; exact nI_add _ 9) (by omega)]
theorem M_of10 (h : Mv S ad v np nf no mo) {f : Nat} (hf : f < 8) : f_X12_of S (ad 1) (nI f) 10 = some (v (58 + 16 * f + 10)) := by
  simp only [f_X12_of, lt_e, r_1_0 h.1]
  rw [ldSe h (k := 58 + 16 * f + 10) (by rw [mu16, ad58]; exact nI_add _ 10) (by omega)]
theorem M_of11 (h : Mv S ad v np nf no mo) {f : Nat} (hf : f < 8) : f_X12_of S (ad 1) (nI f) 11 = some (v (58 + 16 * f + 11)) := by
  simp only [f_X12_of, lt_e, r_1_0 h.1]
  rw [ldSe h (k := 58 + 16 * f + 11) (by rw [mu16, ad58]; exact nI_add _ 11) (by omega)]
theorem M_of12 (h : Mv S ad v np nf no mo) {f : Nat} (hf : f < 8) : f_X12_of S (ad 1) (nI f) 12 = some (v (58 + 16 * f + 12)) := by
  simp only [f_X12_of, lt_e, r_1_0 h.1]
  rw [ldSe h (k := 58 + 16 * f + 12) (by rw [mu16, ad58]; exact nI_add _ 12) (by omega)]
theorem M_of13 (h : Mv S ad v np nf no mo) {f : Nat} (hf : f < 8) : f_X12_of S (ad 1) (nI f) 13 = some (v (58 + 16 * f + 13)) := by
  simp only [f_X12_of, lt_e, r_1_0 h.1]
  rw [ldSe h (k := 58 + 16 * f + 13) (by rw [mu16, ad58]; exact nI_add _ 13) (by omega)]
theorem M_of14 (h : Mv S ad v np nf no mo) {f : Nat} (hf : f < 8) : f_X12_of S (ad 1) (nI f) 14 = some (v (58 + 16 * f + 14)) := by
  simp only [f_X12_of, lt_e, r_1_0 h.1]
  rw [ldSe h (k := 58 + 16 * f + 14) (by rw [mu16, ad58]; exact nI_add _ 14) (by omega)]
theorem M_of15 (h : Mv S ad v np nf no mo) {f : Nat} (hf : f < 8) : f_X12_of S (ad 1) (nI f) 15 = some (v (58 + 16 * f + 15)) := by
  simp only [f_X12_of, lt_e, r_1_0 h.1]
  rw [ldSe h (k := 58 + 16 * f + 15) (by rw [mu16, ad58]; exact nI_add _ 15) (by omega)]
theorem M_oo0 (h : Mv S ad v np nf no mo) {f : Nat} (hf : f < 16) : f_X12_ofOutlet S (ad 1) (nI f) 0 = some (v (186 + 4 * f + 0)) := by
  simp only [f_X12_ofOutlet, lt_e, r_1_0 h.1]
  rw [ldSe h (k := 186 + 4 * f + 0) (by rw [mu4, ad186]; exact nI_add _ 0) (by omega)]
theorem M_oo1 (h : Mv S ad v np nf no mo) {f : Nat} (hf : f < 16) : f_X12_ofOutlet S (ad 1) (nI f) 1 = some (v (186 + 4 * f + 1)) := by
  simp only [f_X12_ofOutlet, lt_e, r_1_0 h.1]
  rw [ldSe h (k := 186 + 4 * f + 1) (by rw [mu4, ad186]; exact nI_add _ 1) (by omega)]
theorem M_oo2 (h : Mv S ad v np nf no mo) {f : Nat} (hf : f < 16) : f_X12_ofOutlet S (ad 1) (nI f) 2 = some (v (186 + 4 * f + 2)) := by
  simp only [f_X12_ofOutlet, lt_e, r_1_0 h.1]
  rw [ldSe h (k := 186 + 4 * f + 2) (by rw [mu4, ad186]; exact nI_add _ 2) (by omega)]
theorem M_oo3 (h : Mv S ad v np nf no mo) {f : Nat} (hf : f < 16) : f_X12_ofOutlet S (ad 1) (nI f) 3 = some (v (186 + 4 * f + 3)) := by
  simp only [f_X12_ofOutlet, lt_e, r_1_0 h.1]
  rw [ldSe h (k := 186 + 4 * f + 3) (by rw [mu4, ad186]; exact nI_add _ 3) (by omega)]
theorem M_op0 (h : Mv S ad v np nf no mo) {f : Nat} (hf : f < 4) : f_X12_ofPlan S (ad 1) (nI f) 0 = some (v (14 + 11 * f + 0)) := by
  simp only [f_X12_ofPlan, lt_e, r_1_0 h.1]
  rw [ldSe h (k := 14 + 11 * f + 0) (by rw [mu11, ad14]; exact nI_add _ 0) (by omega)]
theorem M_op1 (h : Mv S ad v np nf no mo) {f : Nat} (hf : f < 4) : f_X12_ofPlan S (ad 1) (nI f) 1 = some (v (14 + 11 * f + 1)) := by
  simp only [f_X12_ofPlan, lt_e, r_1_0 h.1]
  rw [ldSe h (k := 14 + 11 * f + 1) (by rw [mu11, ad14]; exact nI_add _ 1) (by omega)]
theorem M_op2 (h : Mv S ad v np nf no mo) {f : Nat} (hf : f < 4) : f_X12_ofPlan S (ad 1) (nI f) 2 = some (v (14 + 11 * f + 2)) := by
  simp only [f_X12_ofPlan, lt_e, r_1_0 h.1]
  rw [ldSe h (k := 14 + 11 * f + 2) (by rw [mu11, ad14]; exact nI_add _ 2) (by omega)]
theorem M_op3j (h : Mv S ad v np nf no mo) {f j : Nat} (hf : f < 4) (hj : j < 4) : f_X12_ofPlan S (ad 1) (nI f) (3 + nI j) = some (v (14 + 11 * f + (3 + j))) := by
  simp only [f_X12_ofPlan, lt_e, r_1_0 h.1]
  rw [ldSe h (k := 14 + 11 * f + (3 + j)) (by rw [mu11, ad14, ad3, nI_add]) (by omega)]
theorem M_op7j (h : Mv S ad v np nf no mo) {f j : Nat} (hf : f < 4) (hj : j < 4) : f_X12_ofPlan S (ad 1) (nI f) (7 + nI j) = some (v (14 + 11 * f + (7 + j))) := by
  simp only [f_X12_ofPlan, lt_e, r_1_0 h.1]
  rw [ldSe h (k := 14 + 11 * f + (7 + j)) (by rw [mu11, ad14, ad7, nI_add]) (by omega)]
theorem ld_4 (h : Mv S ad v np nf no mo) {β : Type} {c : Int64 → Option β} : ldJ S (ad 3) 4 c = c (v 4) := ldSe h (k := 4) rfl (by decide)
theorem ld_5 (h : Mv S ad v np nf no mo) {β : Type} {c : Int64 → Option β} : ldJ S (ad 3) 5 c = c (v 5) := ldSe h (k := 5) rfl (by decide)
theorem ld_6 (h : Mv S ad v np nf no mo) {β : Type} {c : Int64 → Option β} : ldJ S (ad 3) 6 c = c (v 6) := ldSe h (k := 6) rfl (by decide)
theorem ld_7 (h : Mv S ad v np nf no mo) {β : Type} {c : Int64 → Option β} : ldJ S (ad 3) 7 c = c (v 7) := ldSe h (k := 7) rfl (by decide)
theorem ld_8 (h : Mv S ad v np nf no mo) {β : Type} {c : Int64 → Option β} : ldJ S (ad 3) 8 c = c (v 8) := ldSe h (k := 8) rfl (by decide)
theorem ld_9 (h : Mv S ad v np nf no mo) {β : Type} {c : Int64 → Option β} : ldJ S (ad 3) 9 c = c (v 9) := ldSe h (k := 9) rfl (by decide)
theorem ld_10 (h : Mv S ad v np nf no mo) {β : Type} {c : Int64 → Option β} : ldJ S (ad 3) 10 c = c (v 10) := ldSe h (k := 10) rfl (by decide)
/-- a query: what the ledger answers is what the reference answers; 1, 2 are what it throws -/
def QA {α : Type} (ad : Nat → Nat) (v : Nat → Int64) (np nf no mo : Nat) (X : Option (α ⊕ Nat)) (Y : St → Option (α × St)) : Prop := (∃ r, X = some (.inl r) ∧ ∀ S', Mv S' ad v np nf no mo → Y S' = some (r, uI S' (ad 1) 2 0)) ∨ (X = some (.inr 1) ∧ ∀ S', Mv S' ad v np nf no mo → ∃ z, Y S' = some (z, uI S' (ad 1) 2 1)) ∨ (X = some (.inr 2) ∧ ∀ S', Mv S' ad v np nf no mo → ∃ z, Y S' = some (z, uI S' (ad 1) 2 2))
/-- a query with one thing to catch -/
def QB {α : Type} (ad : Nat → Nat) (v : Nat → Int64) (np nf no mo e : Nat) (X : Option (α ⊕ Nat)) (Y : St → Option (α × St)) : Prop := (∃ r, X = some (.inl r) ∧ ∀ S', Mv S' ad v np nf no mo → Y S' = some (r, uI S' (ad 1) 2 0)) ∨ (X = some (.inr e) ∧ ∀ S', Mv S' ad v np nf no mo → ∃ z, Y S' = some (z, uI S' (ad 1) 2 1))
/-- a query that throws nothing -/
def QC {α : Type} (ad : Nat → Nat) (v : Nat → Int64) (np nf no mo : Nat) (X : Option α) (Y : St → Option (α × St)) : Prop := ∃ r, X = some r ∧ ∀ S', Mv S' ad v np nf no mo → Y S' = some (r, uI S' (ad 1) 2 0)
theorem Q_planOf (c : CV S ad b v np nf no mo) (p : Int32) : QB ad v np nf no mo 1 (f_X11_planOf S (ad 0) p) (fun S' => f_X12_planOf S' (ad 1) p) := by
  have hf8 := c.hf
  cases hB : vin p nf
  · refine Or.inr ⟨by simp [f_X11_planOf, C_reqF c, hB, clx_r], fun S' h => ⟨0, ?_⟩⟩
    simp [f_X12_planOf, lt_e, M_isFr (Mv_t h (ad 1) 2 0), cl_s, jn_e, if_bI, hB, M_throws1, uI_uI]
  · obtain ⟨f, hf, rfl⟩ := vin_of (by omega) hB
    have h8 : f < 8 := by omega
    refine Or.inl ⟨gI S (ad (b + 21)) f, ?_, fun S' h => ?_⟩
    · simp [f_X11_planOf, C_reqF c, hB, clx_l, lt_e, c.r, r_b0_3 c.t c.hb, r_b4_2 c.t c.hb, lb21 c.t c.hb h8]
    · have h1 := Mv_t h (ad 1) 2 0
      simp [f_X12_planOf, f_X12_planNow, lt_e, M_isFr h1, cl_s, jn_e, if_bI, hB, M_throws0, M_of1 h1 h8, (c.F f hf).1, tl_i]
theorem Q_worth (c : CV S ad b v np nf no mo) (p : Int32) : QB ad v np nf no mo 1 (f_X11_worth S (ad 0) p) (fun S' => f_X12_worth S' (ad 1) p) := by
  have hf8 := c.hf
  cases hB : vin p nf
  · refine Or.inr ⟨by simp [f_X11_worth, C_reqF c, hB, clx_r], fun S' h => ⟨0, ?_⟩⟩
    simp [f_X12_worth, lt_e, M_isFr (Mv_t h (ad 1) 2 0), cl_s, jn_e, if_bI, hB, M_throws1, uI_uI]
  · obtain ⟨f, hf, rfl⟩ := vin_of (by omega) hB
    have h8 : f < 8 := by omega
    refine Or.inl ⟨gI S (ad (b + 22)) f, ?_, fun S' h => ?_⟩
    · simp [f_X11_worth, C_reqF c, hB, clx_l, lt_e, c.r, r_b0_3 c.t c.hb, r_b4_3 c.t c.hb, lb22 c.t c.hb h8]
    · have h1 := Mv_t h (ad 1) 2 0
      simp [f_X12_worth, lt_e, M_isFr h1, cl_s, jn_e, if_bI, hB, M_throws0, M_of2 h1 h8, (c.F f hf).2.1, tl_i]
theorem Q_status (c : CV S ad b v np nf no mo) (p : Int32) : QB ad v np nf no mo 1 (f_X11_status S (ad 0) p) (fun S' => f_X12_status S' (ad 1) p) := by
  have hf8 := c.hf
  cases hB : vin p nf
  · refine Or.inr ⟨by simp [f_X11_status, C_reqF c, hB, clx_r], fun S' h => ⟨0, ?_⟩⟩
    simp [f_X12_status, lt_e, M_isFr (Mv_t h (ad 1) 2 0), cl_s, jn_e, if_bI, hB, M_throws1, uI_uI]
  · obtain ⟨f, hf, rfl⟩ := vin_of (by omega) hB
    have h8 : f < 8 := by omega
    refine Or.inl ⟨gI S (ad (b + 23)) f, ?_, fun S' h => ?_⟩
    · simp [f_X11_status, C_reqF c, hB, clx_l, lt_e, c.r, r_b0_3 c.t c.hb, r_b4_4 c.t c.hb, lb23 c.t c.hb h8]
    · have h1 := Mv_t h (ad 1) 2 0
      simp [f_X12_status, lt_e, M_isFr h1, cl_s, jn_e, if_bI, hB, M_throws0, M_of3 h1 h8, (c.F f hf).2.2.1, tl_i]
theorem Q_balance (c : CV S ad b v np nf no mo) (p : Int32) : QB ad v np nf no mo 1 (f_X11_balance S (ad 0) p) (fun S' => f_X12_balance S' (ad 1) p) := by
  have hf8 := c.hf
  cases hB : vin p nf
  · refine Or.inr ⟨by simp [f_X11_balance, C_reqF c, hB, clx_r], fun S' h => ⟨0, ?_⟩⟩
    simp [f_X12_balance, lt_e, M_isFr (Mv_t h (ad 1) 2 0), cl_s, jn_e, if_bI, hB, M_throws1, uI_uI]
  · obtain ⟨f, hf, rfl⟩ := vin_of (by omega) hB
    have h8 : f < 8 := by omega
    refine Or.inl ⟨gJ S (ad (b + 26)) f, ?_, fun S' h => ?_⟩
    · simp [f_X11_balance, C_reqF c, hB, clx_l, lt_e, c.r, r_b0_3 c.t c.hb, r_b4_7 c.t c.hb, lb26 c.t c.hb h8]
    · have h1 := Mv_t h (ad 1) 2 0
      simp [f_X12_balance, lt_e, M_isFr h1, cl_s, jn_e, if_bI, hB, M_throws0, M_of4 h1 h8, (c.F f hf).2.2.2.1, tl_i]
theorem Q_generation (c : CV S ad b v np nf no mo) (p : Int32) : QB ad v np nf no mo 1 (f_X11_generation S (ad 0) p) (fun S' => f_X12_generation S' (ad 1) p) := by
  have hf8 := c.hf
  cases hB : vin p nf
  · refine Or.inr ⟨by simp [f_X11_generation, C_reqF c, hB, clx_r], fun S' h => ⟨0, ?_⟩⟩
    simp [f_X12_generation, lt_e, M_isFr (Mv_t h (ad 1) 2 0), cl_s, jn_e, if_bI, hB, M_throws1, uI_uI]
  · obtain ⟨f, hf, rfl⟩ := vin_of (by omega) hB
    have h8 : f < 8 := by omega
    refine Or.inl ⟨gI S (ad (b + 24)) f, ?_, fun S' h => ?_⟩
    · simp [f_X11_generation, C_reqF c, hB, clx_l, lt_e, c.r, r_b0_3 c.t c.hb, r_b4_5 c.t c.hb, lb24 c.t c.hb h8]
    · have h1 := Mv_t h (ad 1) 2 0
      simp [f_X12_generation, lt_e, M_isFr h1, cl_s, jn_e, if_bI, hB, M_throws0, M_of5 h1 h8, (c.F f hf).2.2.2.2.1, tl_i]
theorem Q_monthsOverdue (c : CV S ad b v np nf no mo) (p : Int32) : QB ad v np nf no mo 1 (f_X11_monthsOverdue S (ad 0) p) (fun S' => f_X12_monthsOverdue S' (ad 1) p) := by
  have hf8 := c.hf
  cases hB : vin p nf
  · refine Or.inr ⟨by simp [f_X11_monthsOverdue, C_reqF c, hB, clx_r], fun S' h => ⟨0, ?_⟩⟩
    simp [f_X12_monthsOverdue, lt_e, M_isFr (Mv_t h (ad 1) 2 0), cl_s, jn_e, if_bI, hB, M_throws1, uI_uI]
  · obtain ⟨f, hf, rfl⟩ := vin_of (by omega) hB
    have h8 : f < 8 := by omega
    refine Or.inl ⟨gI S (ad (b + 25)) f, ?_, fun S' h => ?_⟩
    · simp [f_X11_monthsOverdue, C_reqF c, hB, clx_l, lt_e, c.r, r_b0_3 c.t c.hb, r_b4_6 c.t c.hb, lb25 c.t c.hb h8]
    · have h1 := Mv_t h (ad 1) 2 0
      simp [f_X12_monthsOverdue, lt_e, M_isFr h1, cl_s, jn_e, if_bI, hB, M_throws0, M_of6 h1 h8, (c.F f hf).2.2.2.2.2, tl_i]
theorem Q_transferState (c : CV S ad b v np nf no mo) (p : Int32) : QB ad v np nf no mo 1 (f_X11_transferState S (ad 0) p) (fun S' => f_X12_transferState S' (ad 1) p) := by
  have hf8 := c.hf
  cases hB : vin p nf
  · refine Or.inr ⟨by simp [f_X11_transferState, C_reqF c, hB, clx_r], fun S' h => ⟨0, ?_⟩⟩
    simp [f_X12_transferState, lt_e, M_isFr (Mv_t h (ad 1) 2 0), cl_s, jn_e, if_bI, hB, M_throws1, uI_uI]
  · obtain ⟨f, hf, rfl⟩ := vin_of (by omega) hB
    have h8 : f < 8 := by omega
    refine Or.inl ⟨gI S (ad (b + 27)) f, ?_, fun S' h => ?_⟩
    · simp [f_X11_transferState, C_reqF c, hB, clx_l, lt_e, c.r, r_b0_4 c.t c.hb, r_b5_0 c.t c.hb, lb27 c.t c.hb h8]
    · have h1 := Mv_t h (ad 1) 2 0
      simp [f_X12_transferState, lt_e, M_isFr h1, cl_s, jn_e, if_bI, hB, M_throws0, M_of9 h1 h8, (c.R f hf).1, tl_i]
theorem Q_contributions (c : CV S ad b v np nf no mo) (p : Int32) : QB ad v np nf no mo 1 (f_X11_contributions S (ad 0) p) (fun S' => f_X12_contributions S' (ad 1) p) := by
  have hf8 := c.hf
  cases hB : vin p nf
  · refine Or.inr ⟨by simp [f_X11_contributions, C_reqF c, hB, clx_r], fun S' h => ⟨0, ?_⟩⟩
    simp [f_X12_contributions, lt_e, M_isFr (Mv_t h (ad 1) 2 0), cl_s, jn_e, if_bI, hB, M_throws1, uI_uI]
  · obtain ⟨f, hf, rfl⟩ := vin_of (by omega) hB
    have h8 : f < 8 := by omega
    refine Or.inl ⟨gJ S (ad (b + 36)) f, ?_, fun S' h => ?_⟩
    · simp [f_X11_contributions, C_reqF c, hB, clx_l, lt_e, c.r, r_b0_5 c.t c.hb, r_b6_3 c.t c.hb, lb36 c.t c.hb h8]
    · have h1 := Mv_t h (ad 1) 2 0
      simp [f_X12_contributions, lt_e, M_isFr h1, cl_s, jn_e, if_bI, hB, M_throws0, M_of7 h1 h8, (c.B.2.2.2.1 f hf).1, tl_i]
theorem Q_outletOwner (c : CV S ad b v np nf no mo) (p : Int32) : QB ad v np nf no mo 1 (f_X11_outletOwner S (ad 0) p) (fun S' => f_X12_outletOwner S' (ad 1) p) := by
  have ho8 := c.ho
  cases hB : vin p no
  · refine Or.inr ⟨by simp [f_X11_outletOwner, C_reqO c, hB, clx_r], fun S' h => ⟨0, ?_⟩⟩
    simp [f_X12_outletOwner, lt_e, M_isOu (Mv_t h (ad 1) 2 0), cl_s, jn_e, if_bI, hB, M_throws1, uI_uI]
  · obtain ⟨f, hf, rfl⟩ := vin_of (by omega) hB
    have h8 : f < 16 := by omega
    refine Or.inl ⟨gI S (ad (b + 15)) f, ?_, fun S' h => ?_⟩
    · simp [f_X11_outletOwner, C_reqO c, hB, clx_l, lt_e, c.r, r_b0_2 c.t c.hb, r_b3_0 c.t c.hb, lb15 c.t c.hb h8]
    · have h1 := Mv_t h (ad 1) 2 0
      simp [f_X12_outletOwner, lt_e, M_isOu h1, cl_s, jn_e, if_bI, hB, M_throws0, M_oo0 h1 h8, -Nat.add_zero, (c.O.2 f hf).1, tl_i]
theorem Q_sales (c : CV S ad b v np nf no mo) (p : Int32) : QB ad v np nf no mo 1 (f_X11_sales S (ad 0) p) (fun S' => f_X12_sales S' (ad 1) p) := by
  have ho8 := c.ho
  cases hB : vin p no
  · refine Or.inr ⟨by simp [f_X11_sales, C_reqO c, hB, clx_r], fun S' h => ⟨0, ?_⟩⟩
    simp [f_X12_sales, lt_e, M_isOu (Mv_t h (ad 1) 2 0), cl_s, jn_e, if_bI, hB, M_throws1, uI_uI]
  · obtain ⟨f, hf, rfl⟩ := vin_of (by omega) hB
    have h8 : f < 16 := by omega
    refine Or.inl ⟨gJ S (ad (b + 18)) f, ?_, fun S' h => ?_⟩
    · simp [f_X11_sales, C_reqO c, hB, clx_l, lt_e, c.r, r_b0_2 c.t c.hb, r_b3_3 c.t c.hb, lb18 c.t c.hb h8]
    · have h1 := Mv_t h (ad 1) 2 0
      simp [f_X12_sales, lt_e, M_isOu h1, cl_s, jn_e, if_bI, hB, M_throws0, M_oo3 h1 h8, -Nat.add_zero, (c.O.2 f hf).2.2.2, tl_i]
