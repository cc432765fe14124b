theorem bv_pz0 : Nat.all 16 (fun j _ => bv_popnz (0 + j)) = true := by decide +kernel
theorem bv_pz1 : Nat.all 16 (fun j _ => bv_popnz (16 + j)) = true := by decide +kernel
theorem bv_pz2 : Nat.all 16 (fun j _ => bv_popnz (32 + j)) = true := by decide +kernel
theorem bv_pz3 : Nat.all 16 (fun j _ => bv_popnz (48 + j)) = true := by decide +kernel
theorem bv_pz4 : Nat.all 16 (fun j _ => bv_popnz (64 + j)) = true := by decide +kernel
theorem bv_pz5 : Nat.all 16 (fun j _ => bv_popnz (80 + j)) = true := by decide +kernel
theorem bv_pz6 : Nat.all 16 (fun j _ => bv_popnz (96 + j)) = true := by decide +kernel
theorem bv_pz7 : Nat.all 16 (fun j _ => bv_popnz (112 + j)) = true := by decide +kernel
theorem bv_pz8 : Nat.all 16 (fun j _ => bv_popnz (128 + j)) = true := by decide +kernel
theorem bv_pz9 : Nat.all 16 (fun j _ => bv_popnz (144 + j)) = true := by decide +kernel
theorem bv_pz10 : Nat.all 16 (fun j _ => bv_popnz (160 + j)) = true := by decide +kernel
theorem bv_pz11 : Nat.all 16 (fun j _ => bv_popnz (176 + j)) = true := by decide +kernel
theorem bv_pz12 : Nat.all 16 (fun j _ => bv_popnz (192 + j)) = true := by decide +kernel
theorem bv_pz13 : Nat.all 16 (fun j _ => bv_popnz (208 + j)) = true := by decide +kernel
theorem bv_pz14 : Nat.all 16 (fun j _ => bv_popnz (224 + j)) = true := by decide +kernel
theorem bv_pz15 : Nat.all 16 (fun j _ => bv_popnz (240 + j)) = true := by decide +kernel

