theorem mx_X4_42 : MXW RX4 42 := ⟨gt_460, gt_461, gt_91, gt_of 462 (by decide +kernel) (by decide +kernel)⟩
theorem mn_X7_57 : MNW RX7 57 := ⟨gt_415, gt_416, gt_91, gt_of 417 (by decide +kernel) (by decide +kernel)⟩
theorem mx_X5_86 : MXW RX5 86 := ⟨gt_846, gt_461, gt_91, gt_of 462 (by decide +kernel) (by decide +kernel)⟩
theorem mx_X9_245 : MXW RX9 245 := ⟨gt_463, gt_461, gt_91, gt_of 462 (by decide +kernel) (by decide +kernel)⟩
