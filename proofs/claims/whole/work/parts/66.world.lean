def Bb (b : Nat) : Nat := if b = 0 then 1 else if b = 1 then 39 else if b = 2 then 78 else 116
def posn (k i : Nat) : Nat := match k with
  | 0 => Bb i
  | 1 => Bb (i / 12) + 9 + 5 * ((i / 2) % 6) + 2 * (i % 2)
  | 2 => Bb i + 2
  | 3 => Bb (i / 6) + 8 + 5 * (i % 6)
  | 4 => if i < 4 then Bb i + 6 else 154
  | 5 => 0
  | 6 => 156
  | 7 => Bb (i / 12) + 10 + 5 * ((i / 2) % 6) + 2 * (i % 2)
  | 8 => Bb i + 3
  | 9 => Bb i + 4
  | 10 => Bb i + 5
  | 11 => if i < 4 then Bb i + 7 else 155
  | 13 => Bb i + 1
  | 14 => 77
  | k => 137 + k
def gad (F F' : Nat → Nat) (k i : Nat) : Nat := if posn k i < 156 then F (posn k i) else F' (posn k i - 156)
def T0 : Nat → Int32 := upd (upd (upd (upd (upd (upd (upd (upd (upd (upd (upd (upd (upd (upd (upd (upd (upd (upd (upd (upd (upd (upd (upd (upd (upd (fun _ => 0) 0 1) 6 (0 + 1)) 12 (nI 3)) 78 (-6)) 1 1) 7 (1 + 1)) 13 (nI 3)) 79 (-6)) 2 1) 8 ((nI 2) + 1)) 14 (nI 3)) 80 (-6)) 3 (nI 2)) 9 ((nI 3) + 1)) 15 (nI 3)) 81 (-6)) 4 (nI 2)) 10 ((nI 4) + 1)) 16 (nI 3)) 82 (-6)) 5 (nI 2)) 11 ((nI 5) + 1)) 17 (nI 3)) 83 (-6)) 132 (nI 100)
def μ0 : Mem := fun k i s => match k with
  | 0 => if s = 3 then nI 100 else 0
  | 1 => if s = 2 then -6 else 0
  | 3 => if s = 0 then (if i % 6 < 3 then 1 else nI 2) else if s = 1 then nI (i % 6 + 1) else if s = 2 then nI 3 else if s = 15 then 1 else 0
  | 20 => T0 s
  | _ => 0
def gg (D : va_G) (cI cZ cB cN : ClassId) (F F' : Nat → Nat) : GG := (gad F F', D, cI, cZ, cB, cN)
def WW (cI cZ cB cN : ClassId) (F F' : Nat → Nat) : va_W := WX5 cI cZ cB cN F ++ WX6 cI cZ cB cN F'
theorem arr_q {D : va_G} {a n : Nat} {cA : ClassId} {f f' : Nat → Option Nat} {H : Heap} (h : va_at D vwCl (a, .inl (cA, n, .inr (.inr (.inr (.inr f))))) H) (e : ∀ j, j < n → f j = f' j) : va_at D vwCl (a, .inl (cA, n, .inr (.inr (.inr (.inr f'))))) H := by
  have h' : H[a]? = some (vp_cell cA (n, .inr (.inr (.inr (.inr f))))) := h
  show H[a]? = some (vp_cell cA (n, .inr (.inr (.inr (.inr f')))))
  rw [h', vp_cell_q, vp_cell_q]
  unfold arrV
  congr 3
  funext j
  show va_rf (f j.1) = va_rf (f' j.1)
  rw [e j.1 j.2]
set_option maxRecDepth 100000 in
set_option maxHeartbeats 4000000 in
theorem at_0 {D : va_G} {cI cZ cB cN : ClassId} {F F' : Nat → Nat} {H : Heap} (hP : va_P D vwCl (WW cI cZ cB cN F F') H) (i : Nat) (hi : i < 4) : va_at D vwCl ((gg D cI cZ cB cN F F').1 0 i, Mr (gg D cI cZ cB cN F F') (μ0 0 i) 0 i) H := by
  rcases (show i = 0 ∨ i = 1 ∨ i = 2 ∨ i = 3 by omega) with rfl | rfl | rfl | rfl
  · exact hP 1 _ rfl
  · exact hP 39 _ rfl
  · exact hP 78 _ rfl
  · exact hP 116 _ rfl
set_option maxRecDepth 100000 in
set_option maxHeartbeats 4000000 in
theorem at_1 {D : va_G} {cI cZ cB cN : ClassId} {F F' : Nat → Nat} {H : Heap} (hP : va_P D vwCl (WW cI cZ cB cN F F') H) (i : Nat) (hi : i < 48) : va_at D vwCl ((gg D cI cZ cB cN F F').1 1 i, Mr (gg D cI cZ cB cN F F') (μ0 1 i) 1 i) H := by
  rcases (show i = 0 ∨ i = 1 ∨ i = 2 ∨ i = 3 ∨ i = 4 ∨ i = 5 ∨ i = 6 ∨ i = 7 ∨ i = 8 ∨ i = 9 ∨ i = 10 ∨ i = 11 ∨ i = 12 ∨ i = 13 ∨ i = 14 ∨ i = 15 ∨ i = 16 ∨ i = 17 ∨ i = 18 ∨ i = 19 ∨ i = 20 ∨ i = 21 ∨ i = 22 ∨ i = 23 ∨ i = 24 ∨ i = 25 ∨ i = 26 ∨ i = 27 ∨ i = 28 ∨ i = 29 ∨ i = 30 ∨ i = 31 ∨ i = 32 ∨ i = 33 ∨ i = 34 ∨ i = 35 ∨ i = 36 ∨ i = 37 ∨ i = 38 ∨ i = 39 ∨ i = 40 ∨ i = 41 ∨ i = 42 ∨ i = 43 ∨ i = 44 ∨ i = 45 ∨ i = 46 ∨ i = 47 by omega) with rfl | rfl | rfl | rfl | rfl | rfl | rfl | rfl | rfl | rfl | rfl | rfl | rfl | rfl | rfl | rfl | rfl | rfl | rfl | rfl | rfl | rfl | rfl | rfl | rfl | rfl | rfl | rfl | rfl | rfl | rfl | rfl | rfl | rfl | rfl | rfl | rfl | rfl | rfl | rfl | rfl | rfl | rfl | rfl | rfl | rfl | rfl | rfl
  · exact hP 10 _ rfl
  · exact hP 12 _ rfl
  · exact hP 15 _ rfl
  · exact hP 17 _ rfl
  · exact hP 20 _ rfl
  · exact hP 22 _ rfl
  · exact hP 25 _ rfl
  · exact hP 27 _ rfl
  · exact hP 30 _ rfl
  · exact hP 32 _ rfl
  · exact hP 35 _ rfl
  · exact hP 37 _ rfl
  · exact hP 48 _ rfl
  · exact hP 50 _ rfl
  · exact hP 53 _ rfl
  · exact hP 55 _ rfl
  · exact hP 58 _ rfl
  · exact hP 60 _ rfl
  · exact hP 63 _ rfl
  · exact hP 65 _ rfl
  · exact hP 68 _ rfl
  · exact hP 70 _ rfl
  · exact hP 73 _ rfl
  · exact hP 75 _ rfl
  · exact hP 87 _ rfl
  · exact hP 89 _ rfl
  · exact hP 92 _ rfl
  · exact hP 94 _ rfl
  · exact hP 97 _ rfl
  · exact hP 99 _ rfl
  · exact hP 102 _ rfl
  · exact hP 104 _ rfl
  · exact hP 107 _ rfl
  · exact hP 109 _ rfl
  · exact hP 112 _ rfl
  · exact hP 114 _ rfl
  · exact hP 125 _ rfl
  · exact hP 127 _ rfl
  · exact hP 130 _ rfl
  · exact hP 132 _ rfl
  · exact hP 135 _ rfl
  · exact hP 137 _ rfl
  · exact hP 140 _ rfl
  · exact hP 142 _ rfl
  · exact hP 145 _ rfl
  · exact hP 147 _ rfl
  · exact hP 150 _ rfl
  · exact hP 152 _ rfl
set_option maxRecDepth 100000 in
set_option maxHeartbeats 4000000 in
theorem at_2 {D : va_G} {cI cZ cB cN : ClassId} {F F' : Nat → Nat} {H : Heap} (hP : va_P D vwCl (WW cI cZ cB cN F F') H) (i : Nat) (hi : i < 4) : va_at D vwCl ((gg D cI cZ cB cN F F').1 2 i, Mr (gg D cI cZ cB cN F F') (μ0 2 i) 2 i) H := by
  rcases (show i = 0 ∨ i = 1 ∨ i = 2 ∨ i = 3 by omega) with rfl | rfl | rfl | rfl
  · exact hP 3 _ rfl
  · exact hP 41 _ rfl
  · exact hP 80 _ rfl
  · exact hP 118 _ rfl
set_option maxRecDepth 100000 in
set_option maxHeartbeats 4000000 in
theorem at_3 {D : va_G} {cI cZ cB cN : ClassId} {F F' : Nat → Nat} {H : Heap} (hP : va_P D vwCl (WW cI cZ cB cN F F') H) (i : Nat) (hi : i < 24) : va_at D vwCl ((gg D cI cZ cB cN F F').1 3 i, Mr (gg D cI cZ cB cN F F') (μ0 3 i) 3 i) H := by
  rcases (show i = 0 ∨ i = 1 ∨ i = 2 ∨ i = 3 ∨ i = 4 ∨ i = 5 ∨ i = 6 ∨ i = 7 ∨ i = 8 ∨ i = 9 ∨ i = 10 ∨ i = 11 ∨ i = 12 ∨ i = 13 ∨ i = 14 ∨ i = 15 ∨ i = 16 ∨ i = 17 ∨ i = 18 ∨ i = 19 ∨ i = 20 ∨ i = 21 ∨ i = 22 ∨ i = 23 by omega) with rfl | rfl | rfl | rfl | rfl | rfl | rfl | rfl | rfl | rfl | rfl | rfl | rfl | rfl | rfl | rfl | rfl | rfl | rfl | rfl | rfl | rfl | rfl | rfl
  · exact hP 9 _ rfl
  · exact hP 14 _ rfl
  · exact hP 19 _ rfl
  · exact hP 24 _ rfl
  · exact hP 29 _ rfl
  · exact hP 34 _ rfl
  · exact hP 47 _ rfl
  · exact hP 52 _ rfl
  · exact hP 57 _ rfl
  · exact hP 62 _ rfl
  · exact hP 67 _ rfl
  · exact hP 72 _ rfl
  · exact hP 86 _ rfl
  · exact hP 91 _ rfl
  · exact hP 96 _ rfl
  · exact hP 101 _ rfl
  · exact hP 106 _ rfl
  · exact hP 111 _ rfl
  · exact hP 124 _ rfl
  · exact hP 129 _ rfl
  · exact hP 134 _ rfl
  · exact hP 139 _ rfl
  · exact hP 144 _ rfl
  · exact hP 149 _ rfl
set_option maxRecDepth 100000 in
set_option maxHeartbeats 4000000 in
theorem at_4 {D : va_G} {cI cZ cB cN : ClassId} {F F' : Nat → Nat} {H : Heap} (hP : va_P D vwCl (WW cI cZ cB cN F F') H) (i : Nat) (hi : i < 5) : va_at D vwCl ((gg D cI cZ cB cN F F').1 4 i, Mr (gg D cI cZ cB cN F F') (μ0 4 i) 4 i) H := by
  rcases (show i = 0 ∨ i = 1 ∨ i = 2 ∨ i = 3 ∨ i = 4 by omega) with rfl | rfl | rfl | rfl | rfl
  · exact hP 7 _ rfl
  · exact hP 45 _ rfl
  · exact hP 84 _ rfl
  · exact hP 122 _ rfl
  · exact hP 154 _ rfl
set_option maxRecDepth 100000 in
set_option maxHeartbeats 4000000 in
theorem at_5 {D : va_G} {cI cZ cB cN : ClassId} {F F' : Nat → Nat} {H : Heap} (hP : va_P D vwCl (WW cI cZ cB cN F F') H) (i : Nat) (hi : i < 1) : va_at D vwCl ((gg D cI cZ cB cN F F').1 5 i, Mr (gg D cI cZ cB cN F F') (μ0 5 i) 5 i) H := by
  obtain rfl : i = 0 := by omega
  exact hP 0 _ rfl
set_option maxRecDepth 100000 in
set_option maxHeartbeats 4000000 in
theorem at_6 {D : va_G} {cI cZ cB cN : ClassId} {F F' : Nat → Nat} {H : Heap} (hP : va_P D vwCl (WW cI cZ cB cN F F') H) (i : Nat) (hi : i < 1) : va_at D vwCl ((gg D cI cZ cB cN F F').1 6 i, Mr (gg D cI cZ cB cN F F') (μ0 6 i) 6 i) H := by
  obtain rfl : i = 0 := by omega
  exact hP 156 _ rfl
set_option maxRecDepth 100000 in
set_option maxHeartbeats 4000000 in
theorem at_7 {D : va_G} {cI cZ cB cN : ClassId} {F F' : Nat → Nat} {H : Heap} (hP : va_P D vwCl (WW cI cZ cB cN F F') H) (i : Nat) (hi : i < 48) : va_at D vwCl ((gg D cI cZ cB cN F F').1 7 i, Mr (gg D cI cZ cB cN F F') (μ0 7 i) 7 i) H := by
  rcases (show i = 0 ∨ i = 1 ∨ i = 2 ∨ i = 3 ∨ i = 4 ∨ i = 5 ∨ i = 6 ∨ i = 7 ∨ i = 8 ∨ i = 9 ∨ i = 10 ∨ i = 11 ∨ i = 12 ∨ i = 13 ∨ i = 14 ∨ i = 15 ∨ i = 16 ∨ i = 17 ∨ i = 18 ∨ i = 19 ∨ i = 20 ∨ i = 21 ∨ i = 22 ∨ i = 23 ∨ i = 24 ∨ i = 25 ∨ i = 26 ∨ i = 27 ∨ i = 28 ∨ i = 29 ∨ i = 30 ∨ i = 31 ∨ i = 32 ∨ i = 33 ∨ i = 34 ∨ i = 35 ∨ i = 36 ∨ i = 37 ∨ i = 38 ∨ i = 39 ∨ i = 40 ∨ i = 41 ∨ i = 42 ∨ i = 43 ∨ i = 44 ∨ i = 45 ∨ i = 46 ∨ i = 47 by omega) with rfl | rfl | rfl | rfl | rfl | rfl | rfl | rfl | rfl | rfl | rfl | rfl | rfl | rfl | rfl | rfl | rfl | rfl | rfl | rfl | rfl | rfl | rfl | rfl | rfl | rfl | rfl | rfl | rfl | rfl | rfl | rfl | rfl | rfl | rfl | rfl | rfl | rfl | rfl | rfl | rfl | rfl | rfl | rfl | rfl | rfl | rfl | rfl
  · exact hP 11 _ rfl
  · exact hP 13 _ rfl
  · exact hP 16 _ rfl
  · exact hP 18 _ rfl
  · exact hP 21 _ rfl
  · exact hP 23 _ rfl
  · exact hP 26 _ rfl
  · exact hP 28 _ rfl
  · exact hP 31 _ rfl
  · exact hP 33 _ rfl
  · exact hP 36 _ rfl
  · exact hP 38 _ rfl
  · exact hP 49 _ rfl
  · exact hP 51 _ rfl
  · exact hP 54 _ rfl
  · exact hP 56 _ rfl
  · exact hP 59 _ rfl
  · exact hP 61 _ rfl
  · exact hP 64 _ rfl
  · exact hP 66 _ rfl
  · exact hP 69 _ rfl
  · exact hP 71 _ rfl
  · exact hP 74 _ rfl
  · exact hP 76 _ rfl
  · exact hP 88 _ rfl
  · exact hP 90 _ rfl
  · exact hP 93 _ rfl
  · exact hP 95 _ rfl
  · exact hP 98 _ rfl
  · exact hP 100 _ rfl
  · exact hP 103 _ rfl
  · exact hP 105 _ rfl
  · exact hP 108 _ rfl
  · exact hP 110 _ rfl
  · exact hP 113 _ rfl
  · exact hP 115 _ rfl
  · exact hP 126 _ rfl
  · exact hP 128 _ rfl
  · exact hP 131 _ rfl
  · exact hP 133 _ rfl
  · exact hP 136 _ rfl
  · exact hP 138 _ rfl
  · exact hP 141 _ rfl
  · exact hP 143 _ rfl
  · exact hP 146 _ rfl
  · exact hP 148 _ rfl
  · exact hP 151 _ rfl
  · exact hP 153 _ rfl
set_option maxRecDepth 100000 in
set_option maxHeartbeats 4000000 in
theorem at_8 {D : va_G} {cI cZ cB cN : ClassId} {F F' : Nat → Nat} {H : Heap} (hP : va_P D vwCl (WW cI cZ cB cN F F') H) (i : Nat) (hi : i < 4) : va_at D vwCl ((gg D cI cZ cB cN F F').1 8 i, Mr (gg D cI cZ cB cN F F') (μ0 8 i) 8 i) H := by
  rcases (show i = 0 ∨ i = 1 ∨ i = 2 ∨ i = 3 by omega) with rfl | rfl | rfl | rfl
  · exact hP 4 _ rfl
  · exact hP 42 _ rfl
  · exact hP 81 _ rfl
  · exact hP 119 _ rfl
set_option maxRecDepth 100000 in
set_option maxHeartbeats 4000000 in
theorem at_9 {D : va_G} {cI cZ cB cN : ClassId} {F F' : Nat → Nat} {H : Heap} (hP : va_P D vwCl (WW cI cZ cB cN F F') H) (i : Nat) (hi : i < 4) : va_at D vwCl ((gg D cI cZ cB cN F F').1 9 i, Mr (gg D cI cZ cB cN F F') (μ0 9 i) 9 i) H := by
  rcases (show i = 0 ∨ i = 1 ∨ i = 2 ∨ i = 3 by omega) with rfl | rfl | rfl | rfl
  · exact hP 5 _ rfl
  · exact hP 43 _ rfl
  · exact hP 82 _ rfl
  · exact hP 120 _ rfl
set_option maxRecDepth 100000 in
set_option maxHeartbeats 4000000 in
theorem at_10 {D : va_G} {cI cZ cB cN : ClassId} {F F' : Nat → Nat} {H : Heap} (hP : va_P D vwCl (WW cI cZ cB cN F F') H) (i : Nat) (hi : i < 4) : va_at D vwCl ((gg D cI cZ cB cN F F').1 10 i, Mr (gg D cI cZ cB cN F F') (μ0 10 i) 10 i) H := by
  rcases (show i = 0 ∨ i = 1 ∨ i = 2 ∨ i = 3 by omega) with rfl | rfl | rfl | rfl
  · exact hP 6 _ rfl
  · exact hP 44 _ rfl
  · exact hP 83 _ rfl
  · exact hP 121 _ rfl
set_option maxRecDepth 100000 in
set_option maxHeartbeats 4000000 in
theorem at_11 {D : va_G} {cI cZ cB cN : ClassId} {F F' : Nat → Nat} {H : Heap} (hP : va_P D vwCl (WW cI cZ cB cN F F') H) (i : Nat) (hi : i < 5) : va_at D vwCl ((gg D cI cZ cB cN F F').1 11 i, Mr (gg D cI cZ cB cN F F') (μ0 11 i) 11 i) H := by
  rcases (show i = 0 ∨ i = 1 ∨ i = 2 ∨ i = 3 ∨ i = 4 by omega) with rfl | rfl | rfl | rfl | rfl
  · exact hP 8 _ rfl
  · exact hP 46 _ rfl
  · exact hP 85 _ rfl
  · exact hP 123 _ rfl
  · exact hP 155 _ rfl
set_option maxRecDepth 100000 in
set_option maxHeartbeats 4000000 in
theorem at_13 {D : va_G} {cI cZ cB cN : ClassId} {F F' : Nat → Nat} {H : Heap} (hP : va_P D vwCl (WW cI cZ cB cN F F') H) (i : Nat) (hi : i < 4) : va_at D vwCl ((gg D cI cZ cB cN F F').1 13 i, Mr (gg D cI cZ cB cN F F') (μ0 13 i) 13 i) H := by
  rcases (show i = 0 ∨ i = 1 ∨ i = 2 ∨ i = 3 by omega) with rfl | rfl | rfl | rfl
  · exact arr_q (hP 2 _ rfl) (fun j hj => by rcases (show j = 0 ∨ j = 1 ∨ j = 2 ∨ j = 3 ∨ j = 4 ∨ j = 5 by omega) with rfl | rfl | rfl | rfl | rfl | rfl <;> rfl)
  · exact arr_q (hP 40 _ rfl) (fun j hj => by rcases (show j = 0 ∨ j = 1 ∨ j = 2 ∨ j = 3 ∨ j = 4 ∨ j = 5 by omega) with rfl | rfl | rfl | rfl | rfl | rfl <;> rfl)
  · exact arr_q (hP 79 _ rfl) (fun j hj => by rcases (show j = 0 ∨ j = 1 ∨ j = 2 ∨ j = 3 ∨ j = 4 ∨ j = 5 by omega) with rfl | rfl | rfl | rfl | rfl | rfl <;> rfl)
  · exact arr_q (hP 117 _ rfl) (fun j hj => by rcases (show j = 0 ∨ j = 1 ∨ j = 2 ∨ j = 3 ∨ j = 4 ∨ j = 5 by omega) with rfl | rfl | rfl | rfl | rfl | rfl <;> rfl)
set_option maxRecDepth 100000 in
set_option maxHeartbeats 4000000 in
theorem at_14 {D : va_G} {cI cZ cB cN : ClassId} {F F' : Nat → Nat} {H : Heap} (hP : va_P D vwCl (WW cI cZ cB cN F F') H) (i : Nat) (hi : i < 1) : va_at D vwCl ((gg D cI cZ cB cN F F').1 14 i, Mr (gg D cI cZ cB cN F F') (μ0 14 i) 14 i) H := by
  obtain rfl : i = 0 := by omega
  exact arr_q (hP 77 _ rfl) (fun j hj => by rcases (show j = 0 ∨ j = 1 by omega) with rfl | rfl <;> rfl)
set_option maxRecDepth 100000 in
set_option maxHeartbeats 4000000 in
theorem at_20 {D : va_G} {cI cZ cB cN : ClassId} {F F' : Nat → Nat} {H : Heap} (hP : va_P D vwCl (WW cI cZ cB cN F F') H) (i : Nat) (hi : i < 1) : va_at D vwCl ((gg D cI cZ cB cN F F').1 20 i, Mr (gg D cI cZ cB cN F F') (μ0 20 i) 20 i) H := by
  obtain rfl : i = 0 := by omega
  exact hP 157 _ rfl
set_option maxRecDepth 100000 in
set_option maxHeartbeats 4000000 in
theorem at_21 {D : va_G} {cI cZ cB cN : ClassId} {F F' : Nat → Nat} {H : Heap} (hP : va_P D vwCl (WW cI cZ cB cN F F') H) (i : Nat) (hi : i < 1) : va_at D vwCl ((gg D cI cZ cB cN F F').1 21 i, Mr (gg D cI cZ cB cN F F') (μ0 21 i) 21 i) H := by
  obtain rfl : i = 0 := by omega
  exact hP 158 _ rfl
set_option maxRecDepth 100000 in
set_option maxHeartbeats 4000000 in
theorem at_22 {D : va_G} {cI cZ cB cN : ClassId} {F F' : Nat → Nat} {H : Heap} (hP : va_P D vwCl (WW cI cZ cB cN F F') H) (i : Nat) (hi : i < 1) : va_at D vwCl ((gg D cI cZ cB cN F F').1 22 i, Mr (gg D cI cZ cB cN F F') (μ0 22 i) 22 i) H := by
  obtain rfl : i = 0 := by omega
  exact hP 159 _ rfl
set_option maxRecDepth 100000 in
set_option maxHeartbeats 4000000 in
theorem at_23 {D : va_G} {cI cZ cB cN : ClassId} {F F' : Nat → Nat} {H : Heap} (hP : va_P D vwCl (WW cI cZ cB cN F F') H) (i : Nat) (hi : i < 1) : va_at D vwCl ((gg D cI cZ cB cN F F').1 23 i, Mr (gg D cI cZ cB cN F F') (μ0 23 i) 23 i) H := by
  obtain rfl : i = 0 := by omega
  exact hP 160 _ rfl
set_option maxRecDepth 100000 in
set_option maxHeartbeats 4000000 in
theorem at_24 {D : va_G} {cI cZ cB cN : ClassId} {F F' : Nat → Nat} {H : Heap} (hP : va_P D vwCl (WW cI cZ cB cN F F') H) (i : Nat) (hi : i < 1) : va_at D vwCl ((gg D cI cZ cB cN F F').1 24 i, Mr (gg D cI cZ cB cN F F') (μ0 24 i) 24 i) H := by
  obtain rfl : i = 0 := by omega
  exact hP 161 _ rfl
set_option maxRecDepth 100000 in
set_option maxHeartbeats 4000000 in
theorem at_25 {D : va_G} {cI cZ cB cN : ClassId} {F F' : Nat → Nat} {H : Heap} (hP : va_P D vwCl (WW cI cZ cB cN F F') H) (i : Nat) (hi : i < 1) : va_at D vwCl ((gg D cI cZ cB cN F F').1 25 i, Mr (gg D cI cZ cB cN F F') (μ0 25 i) 25 i) H := by
  obtain rfl : i = 0 := by omega
  exact hP 162 _ rfl
set_option maxRecDepth 100000 in
set_option maxHeartbeats 4000000 in
theorem at_26 {D : va_G} {cI cZ cB cN : ClassId} {F F' : Nat → Nat} {H : Heap} (hP : va_P D vwCl (WW cI cZ cB cN F F') H) (i : Nat) (hi : i < 1) : va_at D vwCl ((gg D cI cZ cB cN F F').1 26 i, Mr (gg D cI cZ cB cN F F') (μ0 26 i) 26 i) H := by
  obtain rfl : i = 0 := by omega
  exact hP 163 _ rfl
set_option maxRecDepth 100000 in
set_option maxHeartbeats 4000000 in
theorem at_27 {D : va_G} {cI cZ cB cN : ClassId} {F F' : Nat → Nat} {H : Heap} (hP : va_P D vwCl (WW cI cZ cB cN F F') H) (i : Nat) (hi : i < 1) : va_at D vwCl ((gg D cI cZ cB cN F F').1 27 i, Mr (gg D cI cZ cB cN F F') (μ0 27 i) 27 i) H := by
  obtain rfl : i = 0 := by omega
  exact hP 164 _ rfl
set_option maxRecDepth 100000 in
set_option maxHeartbeats 4000000 in
theorem at_28 {D : va_G} {cI cZ cB cN : ClassId} {F F' : Nat → Nat} {H : Heap} (hP : va_P D vwCl (WW cI cZ cB cN F F') H) (i : Nat) (hi : i < 1) : va_at D vwCl ((gg D cI cZ cB cN F F').1 28 i, Mr (gg D cI cZ cB cN F F') (μ0 28 i) 28 i) H := by
  obtain rfl : i = 0 := by omega
  exact hP 165 _ rfl
set_option maxRecDepth 100000 in
set_option maxHeartbeats 4000000 in
theorem at_29 {D : va_G} {cI cZ cB cN : ClassId} {F F' : Nat → Nat} {H : Heap} (hP : va_P D vwCl (WW cI cZ cB cN F F') H) (i : Nat) (hi : i < 1) : va_at D vwCl ((gg D cI cZ cB cN F F').1 29 i, Mr (gg D cI cZ cB cN F F') (μ0 29 i) 29 i) H := by
  obtain rfl : i = 0 := by omega
  exact hP 166 _ rfl
set_option maxRecDepth 100000 in
set_option maxHeartbeats 4000000 in
theorem at_30 {D : va_G} {cI cZ cB cN : ClassId} {F F' : Nat → Nat} {H : Heap} (hP : va_P D vwCl (WW cI cZ cB cN F F') H) (i : Nat) (hi : i < 1) : va_at D vwCl ((gg D cI cZ cB cN F F').1 30 i, Mr (gg D cI cZ cB cN F F') (μ0 30 i) 30 i) H := by
  obtain rfl : i = 0 := by omega
  exact hP 167 _ rfl
set_option maxRecDepth 100000 in
set_option maxHeartbeats 4000000 in
theorem at_31 {D : va_G} {cI cZ cB cN : ClassId} {F F' : Nat → Nat} {H : Heap} (hP : va_P D vwCl (WW cI cZ cB cN F F') H) (i : Nat) (hi : i < 1) : va_at D vwCl ((gg D cI cZ cB cN F F').1 31 i, Mr (gg D cI cZ cB cN F F') (μ0 31 i) 31 i) H := by
  obtain rfl : i = 0 := by omega
  exact hP 168 _ rfl
set_option maxRecDepth 100000 in
set_option maxHeartbeats 4000000 in
theorem at_32 {D : va_G} {cI cZ cB cN : ClassId} {F F' : Nat → Nat} {H : Heap} (hP : va_P D vwCl (WW cI cZ cB cN F F') H) (i : Nat) (hi : i < 1) : va_at D vwCl ((gg D cI cZ cB cN F F').1 32 i, Mr (gg D cI cZ cB cN F F') (μ0 32 i) 32 i) H := by
  obtain rfl : i = 0 := by omega
  exact hP 169 _ rfl
theorem WP_0 {D : va_G} {cI cZ cB cN : ClassId} {F F' : Nat → Nat} {H : Heap} (hP : va_P D vwCl (WW cI cZ cB cN F F') H) : WP (gg D cI cZ cB cN F F') μ0 H := by
  intro p q h
  obtain ⟨k, i, c, -, rfl⟩ := wl_inv h
  have hk : k < 33 := by
    rcases Nat.lt_or_ge k 33 with z | z
    · exact z
    · exfalso
      unfold cnt at c
      rw [List.getD_eq_getElem?_getD, List.getElem?_eq_none (show cntL.length ≤ k from z)] at c
      exact absurd c (Nat.not_lt_zero i)
  rcases (show k = 0 ∨ k = 1 ∨ k = 2 ∨ k = 3 ∨ k = 4 ∨ k = 5 ∨ k = 6 ∨ k = 7 ∨ k = 8 ∨ k = 9 ∨ k = 10 ∨ k = 11 ∨ k = 12 ∨ k = 13 ∨ k = 14 ∨ k = 15 ∨ k = 16 ∨ k = 17 ∨ k = 18 ∨ k = 19 ∨ k = 20 ∨ k = 21 ∨ k = 22 ∨ k = 23 ∨ k = 24 ∨ k = 25 ∨ k = 26 ∨ k = 27 ∨ k = 28 ∨ k = 29 ∨ k = 30 ∨ k = 31 ∨ k = 32 by omega) with rfl | rfl | rfl | rfl | rfl | rfl | rfl | rfl | rfl | rfl | rfl | rfl | rfl | rfl | rfl | rfl | rfl | rfl | rfl | rfl | rfl | rfl | rfl | rfl | rfl | rfl | rfl | rfl | rfl | rfl | rfl | rfl | rfl
  · exact at_0 hP i c
  · exact at_1 hP i c
  · exact at_2 hP i c
  · exact at_3 hP i c
  · exact at_4 hP i c
  · exact at_5 hP i c
  · exact at_6 hP i c
  · exact at_7 hP i c
  · exact at_8 hP i c
  · exact at_9 hP i c
  · exact at_10 hP i c
  · exact at_11 hP i c
  · exact absurd c (Nat.not_lt_zero i)
  · exact at_13 hP i c
  · exact at_14 hP i c
  · exact absurd c (Nat.not_lt_zero i)
  · exact absurd c (Nat.not_lt_zero i)
  · exact absurd c (Nat.not_lt_zero i)
  · exact absurd c (Nat.not_lt_zero i)
  · exact absurd c (Nat.not_lt_zero i)
  · exact at_20 hP i c
  · exact at_21 hP i c
  · exact at_22 hP i c
  · exact at_23 hP i c
  · exact at_24 hP i c
  · exact at_25 hP i c
  · exact at_26 hP i c
  · exact at_27 hP i c
  · exact at_28 hP i c
  · exact at_29 hP i c
  · exact at_30 hP i c
  · exact at_31 hP i c
  · exact at_32 hP i c
set_option maxRecDepth 100000 in
theorem posn_inj : ∀ x ∈ keys, ∀ y ∈ keys, posn x.1 x.2 = posn y.1 y.2 → x = y := by decide +kernel
set_option maxRecDepth 100000 in
theorem posn_lt : ∀ x ∈ keys, posn x.1 x.2 < 170 := by decide +kernel
set_option maxRecDepth 100000 in
set_option maxHeartbeats 4000000 in
theorem WW_ad (cI cZ cB cN : ClassId) (F F' : Nat → Nat) : (WW cI cZ cB cN F F').map (fun q => q.1) = (List.range 156).map F ++ (List.range 14).map F' := rfl
theorem WW_at (cI cZ cB cN : ClassId) (F F' : Nat → Nat) {p : Nat} (hp : p < 170) : ∃ e, (WW cI cZ cB cN F F')[p]? = some (if p < 156 then F p else F' (p - 156), e) := by
  have h : ((WW cI cZ cB cN F F').map (fun q => q.1))[p]? = some (if p < 156 then F p else F' (p - 156)) := by
    rw [WW_ad]
    by_cases c : p < 156
    · rw [if_pos c, List.getElem?_append_left (by simp [c]), List.getElem?_map, List.getElem?_range c]; rfl
    · rw [if_neg c, List.getElem?_append_right (by simp; omega), List.getElem?_map]
      simp only [List.length_map, List.length_range]
      rw [List.getElem?_range (by omega)]; rfl
  rw [List.getElem?_map] at h
  cases hq : (WW cI cZ cB cN F F')[p]? with
  | none => rw [hq] at h; cases h
  | some q =>
    rw [hq] at h
    have e : q.1 = if p < 156 then F p else F' (p - 156) := Option.some.inj h
    exact ⟨q.2, by rw [← e]⟩
theorem gad_at (D : va_G) (cI cZ cB cN : ClassId) (F F' : Nat → Nat) {k i : Nat} (h : i < cnt k) : ∃ e, (WW cI cZ cB cN F F')[posn k i]? = some ((gg D cI cZ cB cN F F').1 k i, e) := WW_at cI cZ cB cN F F' (posn_lt (k, i) (keys_mem h))
theorem Inj_0 {D : va_G} {cI cZ cB cN : ClassId} {F F' : Nat → Nat} {A : Nat → Prop} (hD : va_D A (WW cI cZ cB cN F F')) : Inj (gg D cI cZ cB cN F F') := by
  intro k i k' i' h h' e
  obtain ⟨e1, h1⟩ := gad_at D cI cZ cB cN F F' h
  obtain ⟨e2, h2⟩ := gad_at D cI cZ cB cN F F' h'
  have := hD.1 _ _ _ _ h1 h2 e
  have := posn_inj (k, i) (keys_mem h) (k', i') (keys_mem h') this
  exact ⟨congrArg Prod.fst this, congrArg Prod.snd this⟩
theorem AA_0 {D : va_G} {cI cZ cB cN : ClassId} {F F' : Nat → Nat} {A : Nat → Prop} (hD : va_D A (WW cI cZ cB cN F F')) : ∀ q, AA (gg D cI cZ cB cN F F') q → A q := by
  rintro q ⟨k, i, h, rfl⟩
  obtain ⟨e1, h1⟩ := gad_at D cI cZ cB cN F F' h
  exact hD.2 _ _ h1
/-! the start -/
theorem T0_k : ∀ j : Fin 256, T0 j = (if j.1 < 3 then 1 else if j.1 < 6 then nI 2 else if j.1 < 12 then nI (j.1 - 5) else if j.1 < 18 then nI 3 else if 78 ≤ j.1 ∧ j.1 < 84 then -6 else if j.1 = 132 then nI 100 else 0) := by decide +kernel
theorem T0_v {j : Nat} (hj : j < 256) : T0 j = (if j < 3 then 1 else if j < 6 then nI 2 else if j < 12 then nI (j - 5) else if j < 18 then nI 3 else if 78 ≤ j ∧ j < 84 then -6 else if j = 132 then nI 100 else 0) := T0_k ⟨j, hj⟩
theorem T0_0 {j : Nat} (hj : j < 256) (h : 18 ≤ j) (h2 : ¬ (78 ≤ j ∧ j < 84)) (h3 : j ≠ 132) : T0 j = 0 := by
  rw [T0_v hj, if_neg (by omega), if_neg (by omega), if_neg (by omega), if_neg (by omega), if_neg h2, if_neg h3]
theorem Inv_0 : Inv 0 μ0 := by
  have hx0 : ∀ i, hx i 0 = 2 * i := fun i => by simp [hx]
  have hx1 : ∀ i, hx i 1 = 2 * i + 1 := fun i => by simp [hx]
  have hne : ∀ i, hx i (μ0 3 i 15) ≠ hx i (μ0 3 i 14) := fun i => by
    show hx i 1 ≠ hx i 0
    rw [hx0, hx1]
    omega
  refine ⟨⟨fun n hn f hf hf6 => ?_, fun n hn => hne _, fun n hn => ⟨?_, ?_, ?_, fun o ho hb => ?_⟩, ?_, ?_, ?_, 0, 0, by omega, by omega, rfl, rfl, ?_, fun e he => absurd he (Nat.not_lt_zero e)⟩, ⟨fun n hn => ?_, ⟨0, Nat.le_refl 0, ?_⟩, ⟨0, Nat.zero_le 40, ?_⟩, fun n hn => ⟨0, by omega, ?_⟩⟩, fun b hb n hn => ⟨Or.inl rfl, hne _⟩, fun k hk => Or.inl rfl, by decide⟩
  · show μ0 3 (6 * 0 + n) f = rT T0 n f
    have e6 : (6 * 0 + n) % 6 = n := by omega
    unfold rT
    show (if f = 0 then (if (6 * 0 + n) % 6 < 3 then 1 else nI 2) else if f = 1 then nI ((6 * 0 + n) % 6 + 1) else if f = 2 then nI 3 else if f = 15 then 1 else 0) = _
    rw [e6]
    by_cases c0 : f = 0
    · subst c0
      rw [if_pos rfl, if_pos (show 0 < 6 by omega), T0_v (by omega)]
      by_cases c3 : n < 3
      · rw [if_pos c3, if_pos (show 6 * 0 + n < 3 by omega)]
      · rw [if_neg c3, if_neg (show ¬ 6 * 0 + n < 3 by omega), if_pos (show 6 * 0 + n < 6 by omega)]
    · by_cases c1 : f = 1
      · subst c1
        rw [if_neg c0, if_pos rfl, if_pos (by omega), T0_v (by omega), if_neg (by omega), if_neg (by omega), if_pos (by omega), show 6 * 1 + n - 5 = n + 1 by omega]
      · by_cases c2 : f = 2
        · subst c2
          rw [if_neg c0, if_neg c1, if_pos rfl, if_pos (by omega), T0_v (by omega), if_neg (by omega), if_neg (by omega), if_neg (by omega), if_pos (by omega)]
        · rw [if_neg c0, if_neg c1, if_neg c2, if_neg (by omega)]
          by_cases c6 : f < 6
          · rw [if_pos c6, T0_0 (by omega) (by omega) (by omega) (by omega)]
          · rw [if_neg c6, if_neg hf6, T0_0 (by omega) (by omega) (by omega) (by omega)]
  · exact (T0_0 (by omega) (by omega) (by omega) (by omega)).symm
  · exact (T0_0 (by omega) (by omega) (by omega) (by omega)).symm
  · show (-6 : Int32) = T0 (78 + n)
    rw [T0_v (by omega), if_neg (by omega), if_neg (by omega), if_neg (by omega), if_neg (by omega), if_pos (by omega)]
  · exact (T0_0 (by omega) (by omega) (by omega) (by omega)).symm
  · show nI 100 = T0 132
    rw [T0_v (show 132 < 256 by omega)]
    rfl
  · exact (T0_0 (by omega) (by omega) (by omega) (by omega)).symm
  · exact (T0_0 (by omega) (by omega) (by omega) (by omega)).symm
  · exact T0_0 (by omega) (by omega) (by omega) (by omega)
  · have e30 : μ0 20 0 (30 + n) = 0 := T0_0 (by omega) (by omega) (by omega) (by omega)
    rw [e30]
    exact ⟨fun z => absurd z (by decide), fun z => absurd z (by decide)⟩
  · exact T0_0 (by omega) (by omega) (by omega) (by omega)
  · exact T0_0 (by omega) (by omega) (by omega) (by omega)
  · exact T0_0 (by omega) (by omega) (by omega) (by omega)
