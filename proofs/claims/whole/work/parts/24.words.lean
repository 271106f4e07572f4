/-! The words of the system out of the tables. -/
theorem bx_0 : ([37, 38, 39, 40, 41, 42, 43, 44, 45, 46, 47, 48, 49, 50, 51, 52, 53, 54, 55, 56, 57, 58, 59, 60, 61, 62, 63, 64, 65, 66, 67, 68, 69, 70, 72, 74, 76, 79, 80, 81] : List Nat).filterMap (fun j => lw_tbl[j]?) = BIG_0 := by decide +kernel
theorem bx_1 : ([82, 83, 84, 85, 86, 87, 90, 91, 92, 93, 94, 95, 96, 97, 98, 99, 100, 101, 102, 103, 105, 107, 109, 111, 113, 115, 118, 119, 120, 121, 122, 123, 125, 127, 129, 131, 134, 135, 136, 137] : List Nat).filterMap (fun j => lw_tbl[j]?) = BIG_1 := by decide +kernel
theorem bx_2 : ([138, 139, 140, 141, 143, 144, 145, 146, 147, 148, 149, 150, 151, 152, 153, 154, 155, 156, 157, 158, 159, 160, 161, 162, 163, 164, 165, 166, 167, 168, 169, 170, 171, 172, 173, 174, 176, 177, 178, 180] : List Nat).filterMap (fun j => lw_tbl[j]?) = BIG_2 := by decide +kernel
theorem bx_3 : ([181, 182, 183, 184, 185, 186, 188, 189, 190, 192, 193, 194, 196, 197, 198, 199, 200, 201, 202, 203, 204, 205, 206, 207, 208, 209, 210, 211, 212, 213, 214, 215, 217, 218, 219, 220, 221, 222, 223, 225] : List Nat).filterMap (fun j => lw_tbl[j]?) = BIG_3 := by decide +kernel
theorem bx_4 : ([226, 227, 228, 229, 231, 232, 233, 235, 236, 237, 238, 239, 240, 241, 242, 243, 244, 246, 247, 248, 249, 250, 252, 253, 254, 255, 256, 257, 258, 259, 260, 261, 262, 263, 264, 265, 266, 267, 268, 269] : List Nat).filterMap (fun j => lw_tbl[j]?) = BIG_4 := by decide +kernel
theorem bx_5 : ([270, 271, 272, 273, 274, 275, 276, 277, 278, 279, 280, 281, 282, 283, 284, 285, 286, 287, 288, 289, 290, 291, 292, 293, 294, 295, 296, 297, 298, 299, 300, 301, 302, 303, 304, 306, 307, 308, 310, 311] : List Nat).filterMap (fun j => lw_tbl[j]?) = BIG_5 := by decide +kernel
theorem bx_6 : ([312, 313, 315, 316, 317, 318, 320, 321, 322, 323, 324, 325, 327, 328, 329, 330, 331, 332, 333, 334, 335, 336, 337, 338, 339, 340, 341, 342, 343, 344, 345, 346, 347, 348, 349, 350, 351, 352, 353, 354] : List Nat).filterMap (fun j => lw_tbl[j]?) = BIG_6 := by decide +kernel
theorem bx_7 : ([355, 356, 357, 358, 359, 360, 361, 362, 363, 364, 365, 366, 367, 368, 369, 370, 371, 372, 373, 374, 375, 376, 378, 379, 380, 381, 382, 383, 384, 392, 393, 394, 395, 396, 397, 398, 399, 400, 401, 402] : List Nat).filterMap (fun j => lw_tbl[j]?) = BIG_7 := by decide +kernel
theorem bx_8 : ([403, 404, 406, 407, 408, 409, 411, 413, 414, 417, 419, 420, 422, 423, 424, 425, 426, 427, 428, 429, 430, 431, 432, 433, 434, 435, 440, 444, 445, 446, 447, 448, 449, 450, 451, 452, 453, 454, 455, 456] : List Nat).filterMap (fun j => lw_tbl[j]?) = BIG_8 := by decide +kernel
theorem bx_9 : ([457, 458, 459, 460, 461, 462, 463, 464, 465, 467, 469, 471, 473, 475, 477, 479, 481, 483, 485, 487, 489, 491, 494, 495, 496, 497, 498, 499, 500, 501, 502, 503, 504, 505, 506, 507, 508, 509, 511, 512] : List Nat).filterMap (fun j => lw_tbl[j]?) = BIG_9 := by decide +kernel
theorem bx_10 : ([513, 515, 516, 517, 518, 519, 520, 521, 523, 524, 525, 527, 528, 529, 531, 532, 533, 535, 536, 537, 539, 540, 541, 543, 544, 545, 547, 548, 549, 551, 552, 553, 555, 556, 557, 559, 560, 561, 563, 564] : List Nat).filterMap (fun j => lw_tbl[j]?) = BIG_10 := by decide +kernel
theorem bx_11 : ([565, 567, 568, 569, 571, 572, 573, 574, 575, 576, 577, 578, 579, 580, 581, 582, 583, 584, 585, 586, 587, 588, 589, 590, 591, 592, 593, 594, 596, 597, 598, 600, 601, 602, 604, 605, 606, 608, 609, 610] : List Nat).filterMap (fun j => lw_tbl[j]?) = BIG_11 := by decide +kernel
theorem bx_12 : ([612, 613, 614, 615, 616, 617, 618, 619, 620, 621, 622, 623, 624, 625, 626, 627, 628, 629, 630, 631, 632, 633, 634, 635, 0, 1, 2, 3, 4, 5, 6, 7, 8, 9, 10, 11, 12, 13, 14, 15] : List Nat).filterMap (fun j => lw_tbl[j]?) = BIG_12 := by decide +kernel
theorem bx_13 : ([16, 17, 18, 19, 20, 21, 22, 23, 24, 25, 26, 27, 28, 29, 30, 31, 32, 33, 34, 35, 36] : List Nat).filterMap (fun j => lw_tbl[j]?) = BIG_13 := by decide +kernel
theorem bx_mem {I : List Nat} {B : List Cond} (h : I.filterMap (fun j => lw_tbl[j]?) = B) : ∀ w ∈ B, w ∈ lw_tbl := fun w hw => by
  rw [← h] at hw
  obtain ⟨j, -, hj⟩ := List.mem_filterMap.mp hw
  exact List.mem_of_getElem? hj
theorem big_in : ∀ w ∈ BIG, w ∈ lw_tbl := List.forall_mem_append.mpr ⟨bx_mem bx_0, List.forall_mem_append.mpr ⟨bx_mem bx_1, List.forall_mem_append.mpr ⟨bx_mem bx_2, List.forall_mem_append.mpr ⟨bx_mem bx_3, List.forall_mem_append.mpr ⟨bx_mem bx_4, List.forall_mem_append.mpr ⟨bx_mem bx_5, List.forall_mem_append.mpr ⟨bx_mem bx_6, List.forall_mem_append.mpr ⟨bx_mem bx_7, List.forall_mem_append.mpr ⟨bx_mem bx_8, List.forall_mem_append.mpr ⟨bx_mem bx_9, List.forall_mem_append.mpr ⟨bx_mem bx_10, List.forall_mem_append.mpr ⟨bx_mem bx_11, List.forall_mem_append.mpr ⟨bx_mem bx_12, bx_mem bx_13⟩⟩⟩⟩⟩⟩⟩⟩⟩⟩⟩⟩⟩
theorem nest_in : nestL ∈ lw_tbl := by decide +kernel
theorem cwH_in : Cond.codeWith y_Law_byteAt b_Law_byteAt 4 (some .int) [(0, 9, 12, 13)] ∈ lw_tbl := by decide +kernel
theorem tal_in : ∀ c ∈ TAL, c ∈ lw_tbl ∨ c ∈ TA4.drop 2 := by decide +kernel
theorem law_K {s : State} {args : Array Value} (hB : ∀ w ∈ BIG, w.before args s = true) : ∃ (D : va_G) (cA : ClassId), va_K D vwC [(cA, .int)] s := by
  obtain ⟨c0, i0, h0⟩ := u_known hB in_X (hB _ wm_13)
  obtain ⟨c1, i1, h1⟩ := u_known hB in_F (hB _ wm_21)
  obtain ⟨c2, i2, h2⟩ := u_known hB in_L (hB _ wm_39)
  obtain ⟨c3, i3, h3⟩ := u_known hB in_P (hB _ wm_47)
  obtain ⟨c4, i4, h4⟩ := u_known hB in_M (hB _ wm_349)
  obtain ⟨cA, kA, comp, hf, hk, hkind⟩ := Cond.arrayClass_spec (hB _ wm_37)
  refine ⟨(fun k => match k with | 0 => c0 | 1 => c1 | 2 => c2 | 3 => c3 | _ => c4, fun k => match k with | 0 => i0 | 1 => i1 | 2 => i2 | 3 => i3 | _ => i4), cA, ?_, ?_⟩
  · intro c q hq
    match c, hq with
    | 0, hq => cases hq; exact h0
    | 1, hq => cases hq; exact h1
    | 2, hq => cases hq; exact h2
    | 3, hq => cases hq; exact h3
    | 4, hq => cases hq; exact h4
    | c + 5, hq => cases hq
  · intro k q hq
    match k, hq with
    | 0, hq => cases hq; exact ⟨fun n z => ⟨fun k h => (by cases h), kA, hk, comp, hkind⟩, hf⟩
    | k + 1, hq => cases hq
