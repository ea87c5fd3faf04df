/-! THE LAW'S RUN: one call -/
def NX (E : EV) (d i x N : Nat) : Prop := ∀ (x2 : Nat) (F : FT) (G : GT) (b : Bool) (o : SG), x2 ≤ x + 1 → CInv F G b o → MI2 F G o → WF o → LT E d 1198 [some (vr 0 0), some (vr 1 0), some (vr 40 0), some (vr 81 0), some (vi (nI i)), none, none] [] x2 F G b N
section LW
variable {o : SG} {u v : Int32}
theorem ol_walk : lW (gA (n_walk o u v)) = lW (gA o) := by unfold n_walk; split <;> rfl
theorem ol_wind : lW (gA (n_wind o u v)) = lW (gA o) := by unfold n_wind; split <;> rfl
theorem ol_mend : lW (gA (n_mend o u)) = lW (gA o) := by unfold n_mend; split <;> rfl
theorem ol_undo : lW (gA (n_undo o)) = lW (gA o) := by unfold n_undo; split <;> rfl
theorem ol_tale : lW (gA (n_tale o u v)) = lW (gA o) := by unfold n_tale; split <;> rfl
theorem ol_mark : lW (gA (n_mark o u v)) = lW (gA o) := by
  unfold n_mark
  split
  · split <;> rfl
  · rfl
theorem m_thrown {E : EV} {d x : Nat} {F : FT} {G : GT} {b : Bool} : Tm E d 129 0 [some (vr 40 0)] [] (cC x) F G (Rs b) (some (vi (F 40 0 0))) (cC x, F, G, Rs b) := by
  refine t_run 1 rfl ?_
  refine t_gI k129_1 (Nat.le_of_ble_eq_true rfl) ⟨rfl, rfl, Or.inl rfl⟩ ?_
  exact t_ir k129_4 rfl rfl
theorem MI2.g {F : FT} {G G2 : GT} (h : MI2 F G o) (hG : ∀ k, k ≠ 81 → G2 k = G k) : MI2 F G2 o := by
  obtain ⟨⟨i1, i2, i3, i4⟩, i7⟩ := h
  refine ⟨⟨i1, i2, ?_, i4⟩, i7⟩
  unfold MNm
  rw [hG 43 (by decide), hG 44 (by decide)]
  exact i3
end LW
def lT0 : List (Nat × Ent) := [(172, 4, 1, 0, z0, 173), (173, 4, 0, 0, z0, 174), (174, 2, 4, 0, z0, 176), (176, 0, 0, 0, vi (1), 177), (177, 9, 0, 0, z0, 178), (178, 31, 1, 0, z0, 179), (179, 19, 0, 0, z0, 180), (180, 0, 0, 0, vi (32), 182), (182, 14, 0, 0, z0, 183), (183, 4, 0, 0, z0, 184), (184, 2, 4, 0, z0, 186), (186, 0, 0, 0, vi (2), 187), (187, 9, 0, 0, z0, 188), (188, 31, 1, 0, z0, 189), (189, 19, 0, 0, z0, 190), (190, 0, 0, 0, vl (4294967295), 193), (193, 13, 3, 0, z0, 194), (194, 13, 4, 0, z0, 195), (195, 4, 0, 0, z0, 196), (196, 2, 4, 0, z0, 198), (198, 0, 0, 0, vi (3), 199), (199, 9, 0, 0, z0, 200), (200, 31, 1, 0, z0, 201), (201, 19, 0, 0, z0, 202), (202, 0, 0, 0, vi (32), 204), (204, 14, 0, 0, z0, 205), (205, 4, 0, 0, z0, 206), (206, 2, 4, 0, z0, 208), (208, 0, 0, 0, vi (4), 209), (209, 9, 0, 0, z0, 210), (210, 31, 1, 0, z0, 211), (211, 19, 0, 0, z0, 212), (212, 0, 0, 0, vl (4294967295), 215), (215, 13, 3, 0, z0, 216), (216, 13, 4, 0, z0, 217), (217, 4, 0, 0, z0, 218), (218, 2, 4, 0, z0, 220), (220, 0, 0, 0, vi (5), 221), (221, 9, 0, 0, z0, 222), (222, 31, 1, 0, z0, 223), (223, 19, 0, 0, z0, 224), (224, 0, 0, 0, vi (32), 226), (226, 14, 0, 0, z0, 227), (227, 4, 0, 0, z0, 228), (228, 2, 4, 0, z0, 230), (230, 0, 0, 0, vi (6), 232), (232, 9, 0, 0, z0, 233), (233, 31, 1, 0, z0, 234), (234, 19, 0, 0, z0, 235), (235, 0, 0, 0, vl (4294967295), 238), (238, 13, 3, 0, z0, 239), (239, 13, 4, 0, z0, 240), (240, 34, 86, 4, vr 1 0, 243), (243, 4, 2, 0, z0, 244), (244, 4, 0, 0, z0, 245), (245, 2, 4, 0, z0, 247), (247, 0, 0, 0, vi (1), 248), (248, 9, 0, 0, z0, 249), (249, 31, 1, 0, z0, 250), (250, 19, 0, 0, z0, 251), (251, 0, 0, 0, vi (32), 253), (253, 14, 0, 0, z0, 254), (254, 4, 0, 0, z0, 255), (255, 2, 4, 0, z0, 257), (257, 0, 0, 0, vi (2), 258), (258, 9, 0, 0, z0, 259), (259, 31, 1, 0, z0, 260), (260, 19, 0, 0, z0, 261), (261, 0, 0, 0, vl (4294967295), 264), (264, 13, 3, 0, z0, 265), (265, 13, 4, 0, z0, 266), (266, 4, 0, 0, z0, 267), (267, 2, 4, 0, z0, 269), (269, 0, 0, 0, vi (3), 270), (270, 9, 0, 0, z0, 271), (271, 31, 1, 0, z0, 272), (272, 19, 0, 0, z0, 273), (273, 0, 0, 0, vi (32), 275), (275, 14, 0, 0, z0, 276), (276, 4, 0, 0, z0, 277), (277, 2, 4, 0, z0, 279), (279, 0, 0, 0, vi (4), 280), (280, 9, 0, 0, z0, 281), (281, 31, 1, 0, z0, 282), (282, 19, 0, 0, z0, 283), (283, 0, 0, 0, vl (4294967295), 286), (286, 13, 3, 0, z0, 287), (287, 13, 4, 0, z0, 288), (288, 4, 0, 0, z0, 289), (289, 2, 4, 0, z0, 291), (291, 0, 0, 0, vi (5), 292), (292, 9, 0, 0, z0, 293), (293, 31, 1, 0, z0, 294), (294, 19, 0, 0, z0, 295), (295, 0, 0, 0, vi (32), 297), (297, 14, 0, 0, z0, 298), (298, 4, 0, 0, z0, 299), (299, 2, 4, 0, z0, 301), (301, 0, 0, 0, vi (6), 303), (303, 9, 0, 0, z0, 304), (304, 31, 1, 0, z0, 305), (305, 19, 0, 0, z0, 306), (306, 0, 0, 0, vl (4294967295), 309), (309, 13, 3, 0, z0, 310), (310, 13, 4, 0, z0, 311), (311, 34, 133, 4, vr 40 0, 314), (314, 28, 0, 1198, z0, 317), (317, 0, 0, 0, z0, 318), (318, 36, 2, 0, z0, 319)]
def lT1 : List (Nat × Ent) := [(319, 4, 1, 0, z0, 320), (320, 34, 87, 1, vr 1 0, 323), (323, 4, 2, 0, z0, 324), (324, 34, 173, 1, vr 40 0, 327), (327, 28, 0, 1198, z0, 330), (330, 0, 0, 0, z0, 331), (331, 36, 2, 0, z0, 332)]
def lT2 : List (Nat × Ent) := [(332, 4, 1, 0, z0, 333), (333, 34, 88, 1, vr 1 0, 336), (336, 4, 2, 0, z0, 337), (337, 34, 174, 1, vr 40 0, 340), (340, 28, 0, 1198, z0, 343), (343, 0, 0, 0, z0, 344), (344, 36, 2, 0, z0, 345)]
def lT3 : List (Nat × Ent) := [(345, 4, 1, 0, z0, 346), (346, 4, 0, 0, z0, 347), (347, 2, 4, 0, z0, 349), (349, 0, 0, 0, vi (1), 350), (350, 9, 0, 0, z0, 351), (351, 31, 1, 0, z0, 352), (352, 4, 0, 0, z0, 353), (353, 2, 4, 0, z0, 355), (355, 0, 0, 0, vi (2), 356), (356, 9, 0, 0, z0, 357), (357, 31, 1, 0, z0, 358), (358, 34, 89, 3, vr 1 0, 361), (361, 4, 2, 0, z0, 362), (362, 4, 0, 0, z0, 363), (363, 2, 4, 0, z0, 365), (365, 0, 0, 0, vi (1), 366), (366, 9, 0, 0, z0, 367), (367, 31, 1, 0, z0, 368), (368, 4, 0, 0, z0, 369), (369, 2, 4, 0, z0, 371), (371, 0, 0, 0, vi (2), 372), (372, 9, 0, 0, z0, 373), (373, 31, 1, 0, z0, 374), (374, 34, 193, 3, vr 40 0, 377), (377, 28, 0, 1198, z0, 380), (380, 0, 0, 0, z0, 381), (381, 36, 2, 0, z0, 382)]
def lT4 : List (Nat × Ent) := [(382, 4, 1, 0, z0, 383), (383, 4, 0, 0, z0, 384), (384, 2, 4, 0, z0, 386), (386, 0, 0, 0, vi (1), 387), (387, 9, 0, 0, z0, 388), (388, 31, 1, 0, z0, 389), (389, 4, 0, 0, z0, 390), (390, 2, 4, 0, z0, 392), (392, 0, 0, 0, vi (2), 393), (393, 9, 0, 0, z0, 394), (394, 31, 1, 0, z0, 395), (395, 34, 90, 3, vr 1 0, 398), (398, 4, 2, 0, z0, 399), (399, 4, 0, 0, z0, 400), (400, 2, 4, 0, z0, 402), (402, 0, 0, 0, vi (1), 403), (403, 9, 0, 0, z0, 404), (404, 31, 1, 0, z0, 405), (405, 4, 0, 0, z0, 406), (406, 2, 4, 0, z0, 408), (408, 0, 0, 0, vi (2), 409), (409, 9, 0, 0, z0, 410), (410, 31, 1, 0, z0, 411), (411, 34, 194, 3, vr 40 0, 414), (414, 28, 0, 1198, z0, 417), (417, 0, 0, 0, z0, 418), (418, 36, 2, 0, z0, 419)]
def lT5 : List (Nat × Ent) := [(419, 4, 1, 0, z0, 420), (420, 4, 0, 0, z0, 421), (421, 2, 4, 0, z0, 423), (423, 0, 0, 0, vi (1), 424), (424, 9, 0, 0, z0, 425), (425, 31, 1, 0, z0, 426), (426, 34, 91, 2, vr 1 0, 429), (429, 4, 2, 0, z0, 430), (430, 4, 0, 0, z0, 431), (431, 2, 4, 0, z0, 433), (433, 0, 0, 0, vi (1), 434), (434, 9, 0, 0, z0, 435), (435, 31, 1, 0, z0, 436), (436, 34, 195, 2, vr 40 0, 439), (439, 28, 0, 1198, z0, 442), (442, 0, 0, 0, z0, 443), (443, 36, 2, 0, z0, 444)]
def lT6 : List (Nat × Ent) := [(444, 4, 1, 0, z0, 445), (445, 4, 0, 0, z0, 446), (446, 2, 4, 0, z0, 448), (448, 0, 0, 0, vi (1), 449), (449, 9, 0, 0, z0, 450), (450, 31, 1, 0, z0, 451), (451, 4, 0, 0, z0, 452), (452, 2, 4, 0, z0, 454), (454, 0, 0, 0, vi (2), 455), (455, 9, 0, 0, z0, 456), (456, 31, 1, 0, z0, 457), (457, 34, 92, 3, vr 1 0, 460), (460, 4, 2, 0, z0, 461), (461, 4, 0, 0, z0, 462), (462, 2, 4, 0, z0, 464), (464, 0, 0, 0, vi (1), 465), (465, 9, 0, 0, z0, 466), (466, 31, 1, 0, z0, 467), (467, 4, 0, 0, z0, 468), (468, 2, 4, 0, z0, 470), (470, 0, 0, 0, vi (2), 471), (471, 9, 0, 0, z0, 472), (472, 31, 1, 0, z0, 473), (473, 34, 196, 3, vr 40 0, 476), (476, 28, 0, 1198, z0, 479), (479, 0, 0, 0, z0, 480), (480, 36, 2, 0, z0, 481)]
def lT7 : List (Nat × Ent) := [(481, 4, 1, 0, z0, 482), (482, 4, 0, 0, z0, 483), (483, 2, 4, 0, z0, 485), (485, 0, 0, 0, vi (1), 486), (486, 9, 0, 0, z0, 487), (487, 31, 1, 0, z0, 488), (488, 4, 0, 0, z0, 489), (489, 2, 4, 0, z0, 491), (491, 0, 0, 0, vi (2), 492), (492, 9, 0, 0, z0, 493), (493, 31, 1, 0, z0, 494), (494, 34, 93, 3, vr 1 0, 497), (497, 4, 2, 0, z0, 498), (498, 4, 0, 0, z0, 499), (499, 2, 4, 0, z0, 501), (501, 0, 0, 0, vi (1), 502), (502, 9, 0, 0, z0, 503), (503, 31, 1, 0, z0, 504), (504, 4, 0, 0, z0, 505), (505, 2, 4, 0, z0, 507), (507, 0, 0, 0, vi (2), 508), (508, 9, 0, 0, z0, 509), (509, 31, 1, 0, z0, 510), (510, 34, 198, 3, vr 40 0, 513), (513, 28, 0, 1198, z0, 516), (516, 0, 0, 0, z0, 517), (517, 36, 2, 0, z0, 518)]
def lT8 : List (Nat × Ent) := [(518, 4, 1, 0, z0, 519), (519, 4, 0, 0, z0, 520), (520, 2, 4, 0, z0, 522), (522, 0, 0, 0, vi (1), 523), (523, 9, 0, 0, z0, 524), (524, 31, 1, 0, z0, 525), (525, 4, 0, 0, z0, 526), (526, 2, 4, 0, z0, 528), (528, 0, 0, 0, vi (2), 529), (529, 9, 0, 0, z0, 530), (530, 31, 1, 0, z0, 531), (531, 34, 94, 3, vr 1 0, 534), (534, 4, 2, 0, z0, 535), (535, 4, 0, 0, z0, 536), (536, 2, 4, 0, z0, 538), (538, 0, 0, 0, vi (1), 539), (539, 9, 0, 0, z0, 540), (540, 31, 1, 0, z0, 541), (541, 4, 0, 0, z0, 542), (542, 2, 4, 0, z0, 544), (544, 0, 0, 0, vi (2), 545), (545, 9, 0, 0, z0, 546), (546, 31, 1, 0, z0, 547), (547, 34, 199, 3, vr 40 0, 550), (550, 28, 0, 1198, z0, 553), (553, 0, 0, 0, z0, 554), (554, 36, 2, 0, z0, 555)]
def lT9 : List (Nat × Ent) := [(555, 4, 1, 0, z0, 556), (556, 4, 0, 0, z0, 557), (557, 2, 4, 0, z0, 559), (559, 0, 0, 0, vi (1), 560), (560, 9, 0, 0, z0, 561), (561, 31, 1, 0, z0, 562), (562, 34, 95, 2, vr 1 0, 565), (565, 4, 2, 0, z0, 566), (566, 4, 0, 0, z0, 567), (567, 2, 4, 0, z0, 569), (569, 0, 0, 0, vi (1), 570), (570, 9, 0, 0, z0, 571), (571, 31, 1, 0, z0, 572), (572, 34, 200, 2, vr 40 0, 575), (575, 28, 0, 1198, z0, 578), (578, 0, 0, 0, z0, 579), (579, 36, 2, 0, z0, 580)]
def lT10 : List (Nat × Ent) := [(580, 4, 1, 0, z0, 581), (581, 34, 96, 1, vr 1 0, 584), (584, 4, 2, 0, z0, 585), (585, 34, 201, 1, vr 40 0, 588), (588, 28, 0, 1198, z0, 591), (591, 0, 0, 0, z0, 592), (592, 36, 2, 0, z0, 593)]
def lT11 : List (Nat × Ent) := [(593, 4, 1, 0, z0, 594), (594, 34, 97, 1, vr 1 0, 597), (597, 4, 2, 0, z0, 598), (598, 34, 202, 1, vr 40 0, 601), (601, 28, 0, 1198, z0, 604), (604, 0, 0, 0, z0, 605), (605, 36, 2, 0, z0, 606)]
def lT12 : List (Nat × Ent) := [(606, 4, 1, 0, z0, 607), (607, 4, 0, 0, z0, 608), (608, 2, 4, 0, z0, 610), (610, 0, 0, 0, vi (1), 611), (611, 9, 0, 0, z0, 612), (612, 31, 1, 0, z0, 613), (613, 34, 98, 2, vr 1 0, 616), (616, 4, 2, 0, z0, 617), (617, 4, 0, 0, z0, 618), (618, 2, 4, 0, z0, 620), (620, 0, 0, 0, vi (1), 621), (621, 9, 0, 0, z0, 622), (622, 31, 1, 0, z0, 623), (623, 34, 204, 2, vr 40 0, 626), (626, 28, 0, 1198, z0, 629), (629, 0, 0, 0, z0, 630), (630, 36, 2, 0, z0, 631)]
def lT13 : List (Nat × Ent) := [(631, 4, 1, 0, z0, 632), (632, 4, 0, 0, z0, 633), (633, 2, 4, 0, z0, 635), (635, 0, 0, 0, vi (1), 636), (636, 9, 0, 0, z0, 637), (637, 31, 1, 0, z0, 638), (638, 34, 99, 2, vr 1 0, 641), (641, 4, 2, 0, z0, 642), (642, 4, 0, 0, z0, 643), (643, 2, 4, 0, z0, 645), (645, 0, 0, 0, vi (1), 646), (646, 9, 0, 0, z0, 647), (647, 31, 1, 0, z0, 648), (648, 34, 205, 2, vr 40 0, 651), (651, 28, 0, 1198, z0, 654), (654, 0, 0, 0, z0, 655), (655, 36, 2, 0, z0, 656)]
def lT14 : List (Nat × Ent) := [(656, 4, 1, 0, z0, 657), (657, 34, 100, 1, vr 1 0, 660), (660, 4, 2, 0, z0, 661), (661, 34, 206, 1, vr 40 0, 664), (664, 28, 0, 1198, z0, 667), (667, 0, 0, 0, z0, 668), (668, 36, 2, 0, z0, 669)]
def lT15 : List (Nat × Ent) := [(669, 4, 1, 0, z0, 670), (670, 4, 0, 0, z0, 671), (671, 2, 4, 0, z0, 673), (673, 0, 0, 0, vi (1), 674), (674, 9, 0, 0, z0, 675), (675, 31, 1, 0, z0, 676), (676, 4, 0, 0, z0, 677), (677, 2, 4, 0, z0, 679), (679, 0, 0, 0, vi (2), 680), (680, 9, 0, 0, z0, 681), (681, 31, 1, 0, z0, 682), (682, 4, 0, 0, z0, 683), (683, 2, 4, 0, z0, 685), (685, 0, 0, 0, vi (3), 686), (686, 9, 0, 0, z0, 687), (687, 31, 1, 0, z0, 688), (688, 34, 101, 4, vr 1 0, 691), (691, 4, 2, 0, z0, 692), (692, 4, 0, 0, z0, 693), (693, 2, 4, 0, z0, 695), (695, 0, 0, 0, vi (1), 696), (696, 9, 0, 0, z0, 697), (697, 31, 1, 0, z0, 698), (698, 4, 0, 0, z0, 699), (699, 2, 4, 0, z0, 701), (701, 0, 0, 0, vi (2), 702), (702, 9, 0, 0, z0, 703), (703, 31, 1, 0, z0, 704), (704, 4, 0, 0, z0, 705), (705, 2, 4, 0, z0, 707), (707, 0, 0, 0, vi (3), 708), (708, 9, 0, 0, z0, 709), (709, 31, 1, 0, z0, 710), (710, 34, 208, 4, vr 40 0, 713), (713, 28, 0, 1198, z0, 716), (716, 0, 0, 0, z0, 717), (717, 36, 2, 0, z0, 718)]
def lT16 : List (Nat × Ent) := [(718, 4, 1, 0, z0, 719), (719, 4, 0, 0, z0, 720), (720, 2, 4, 0, z0, 722), (722, 0, 0, 0, vi (1), 723), (723, 9, 0, 0, z0, 724), (724, 31, 1, 0, z0, 725), (725, 34, 102, 2, vr 1 0, 728), (728, 4, 2, 0, z0, 729), (729, 4, 0, 0, z0, 730), (730, 2, 4, 0, z0, 732), (732, 0, 0, 0, vi (1), 733), (733, 9, 0, 0, z0, 734), (734, 31, 1, 0, z0, 735), (735, 34, 209, 2, vr 40 0, 738), (738, 28, 0, 1198, z0, 741), (741, 0, 0, 0, z0, 742), (742, 36, 2, 0, z0, 743)]
def lT17 : List (Nat × Ent) := [(743, 4, 1, 0, z0, 744), (744, 4, 0, 0, z0, 745), (745, 2, 4, 0, z0, 747), (747, 0, 0, 0, vi (1), 748), (748, 9, 0, 0, z0, 749), (749, 31, 1, 0, z0, 750), (750, 4, 0, 0, z0, 751), (751, 2, 4, 0, z0, 753), (753, 0, 0, 0, vi (2), 754), (754, 9, 0, 0, z0, 755), (755, 31, 1, 0, z0, 756), (756, 34, 103, 3, vr 1 0, 759), (759, 4, 2, 0, z0, 760), (760, 4, 0, 0, z0, 761), (761, 2, 4, 0, z0, 763), (763, 0, 0, 0, vi (1), 764), (764, 9, 0, 0, z0, 765), (765, 31, 1, 0, z0, 766), (766, 4, 0, 0, z0, 767), (767, 2, 4, 0, z0, 769), (769, 0, 0, 0, vi (2), 770), (770, 9, 0, 0, z0, 771), (771, 31, 1, 0, z0, 772), (772, 34, 213, 3, vr 40 0, 775), (775, 28, 0, 1198, z0, 778), (778, 0, 0, 0, z0, 779), (779, 36, 2, 0, z0, 780)]
def lT18 : List (Nat × Ent) := [(780, 4, 1, 0, z0, 781), (781, 4, 0, 0, z0, 782), (782, 2, 4, 0, z0, 784), (784, 0, 0, 0, vi (1), 785), (785, 9, 0, 0, z0, 786), (786, 31, 1, 0, z0, 787), (787, 4, 0, 0, z0, 788), (788, 2, 4, 0, z0, 790), (790, 0, 0, 0, vi (2), 791), (791, 9, 0, 0, z0, 792), (792, 31, 1, 0, z0, 793), (793, 34, 104, 3, vr 1 0, 796), (796, 4, 2, 0, z0, 797), (797, 4, 0, 0, z0, 798), (798, 2, 4, 0, z0, 800), (800, 0, 0, 0, vi (1), 801), (801, 9, 0, 0, z0, 802), (802, 31, 1, 0, z0, 803), (803, 4, 0, 0, z0, 804), (804, 2, 4, 0, z0, 806), (806, 0, 0, 0, vi (2), 807), (807, 9, 0, 0, z0, 808), (808, 31, 1, 0, z0, 809), (809, 34, 214, 3, vr 40 0, 812), (812, 28, 0, 1198, z0, 815), (815, 0, 0, 0, z0, 816), (816, 36, 2, 0, z0, 817)]
def lT19 : List (Nat × Ent) := [(817, 4, 1, 0, z0, 818), (818, 4, 0, 0, z0, 819), (819, 2, 4, 0, z0, 821), (821, 0, 0, 0, vi (1), 822), (822, 9, 0, 0, z0, 823), (823, 31, 1, 0, z0, 824), (824, 4, 0, 0, z0, 825), (825, 2, 4, 0, z0, 827), (827, 0, 0, 0, vi (2), 828), (828, 9, 0, 0, z0, 829), (829, 31, 1, 0, z0, 830), (830, 34, 105, 3, vr 1 0, 833), (833, 4, 2, 0, z0, 834), (834, 4, 0, 0, z0, 835), (835, 2, 4, 0, z0, 837), (837, 0, 0, 0, vi (1), 838), (838, 9, 0, 0, z0, 839), (839, 31, 1, 0, z0, 840), (840, 4, 0, 0, z0, 841), (841, 2, 4, 0, z0, 843), (843, 0, 0, 0, vi (2), 844), (844, 9, 0, 0, z0, 845), (845, 31, 1, 0, z0, 846), (846, 34, 218, 3, vr 40 0, 849), (849, 28, 0, 1198, z0, 852), (852, 0, 0, 0, z0, 853), (853, 36, 2, 0, z0, 854)]
def lT20 : List (Nat × Ent) := [(854, 4, 1, 0, z0, 855), (855, 4, 0, 0, z0, 856), (856, 2, 4, 0, z0, 858), (858, 0, 0, 0, vi (1), 859), (859, 9, 0, 0, z0, 860), (860, 31, 1, 0, z0, 861), (861, 34, 106, 2, vr 1 0, 864), (864, 4, 2, 0, z0, 865), (865, 4, 0, 0, z0, 866), (866, 2, 4, 0, z0, 868), (868, 0, 0, 0, vi (1), 869), (869, 9, 0, 0, z0, 870), (870, 31, 1, 0, z0, 871), (871, 34, 219, 2, vr 40 0, 874), (874, 28, 0, 1198, z0, 877), (877, 0, 0, 0, z0, 878), (878, 36, 2, 0, z0, 879)]
def lT21 : List (Nat × Ent) := [(879, 4, 1, 0, z0, 880), (880, 4, 0, 0, z0, 881), (881, 2, 4, 0, z0, 883), (883, 0, 0, 0, vi (1), 884), (884, 9, 0, 0, z0, 885), (885, 31, 1, 0, z0, 886), (886, 4, 0, 0, z0, 887), (887, 2, 4, 0, z0, 889), (889, 0, 0, 0, vi (2), 890), (890, 9, 0, 0, z0, 891), (891, 31, 1, 0, z0, 892), (892, 4, 0, 0, z0, 893), (893, 2, 4, 0, z0, 895), (895, 0, 0, 0, vi (3), 896), (896, 9, 0, 0, z0, 897), (897, 31, 1, 0, z0, 898), (898, 34, 107, 4, vr 1 0, 901), (901, 4, 2, 0, z0, 902), (902, 4, 0, 0, z0, 903), (903, 2, 4, 0, z0, 905), (905, 0, 0, 0, vi (1), 906), (906, 9, 0, 0, z0, 907), (907, 31, 1, 0, z0, 908), (908, 4, 0, 0, z0, 909), (909, 2, 4, 0, z0, 911), (911, 0, 0, 0, vi (2), 912), (912, 9, 0, 0, z0, 913), (913, 31, 1, 0, z0, 914), (914, 4, 0, 0, z0, 915), (915, 2, 4, 0, z0, 917), (917, 0, 0, 0, vi (3), 918), (918, 9, 0, 0, z0, 919), (919, 31, 1, 0, z0, 920), (920, 34, 223, 4, vr 40 0, 923), (923, 28, 0, 1198, z0, 926), (926, 0, 0, 0, z0, 927), (927, 36, 2, 0, z0, 928)]
def lT22 : List (Nat × Ent) := [(928, 4, 1, 0, z0, 929), (929, 34, 108, 1, vr 1 0, 932), (932, 4, 2, 0, z0, 933), (933, 34, 224, 1, vr 40 0, 936), (936, 28, 0, 1198, z0, 939), (939, 0, 0, 0, z0, 940), (940, 36, 2, 0, z0, 941)]
def lT23 : List (Nat × Ent) := [(941, 4, 1, 0, z0, 942), (942, 4, 0, 0, z0, 943), (943, 2, 4, 0, z0, 945), (945, 0, 0, 0, vi (1), 946), (946, 9, 0, 0, z0, 947), (947, 31, 1, 0, z0, 948), (948, 34, 109, 2, vr 1 0, 951), (951, 4, 2, 0, z0, 952), (952, 4, 0, 0, z0, 953), (953, 2, 4, 0, z0, 955), (955, 0, 0, 0, vi (1), 956), (956, 9, 0, 0, z0, 957), (957, 31, 1, 0, z0, 958), (958, 34, 227, 2, vr 40 0, 961), (961, 28, 0, 1198, z0, 964), (964, 0, 0, 0, z0, 965), (965, 36, 2, 0, z0, 966)]
def lT24 : List (Nat × Ent) := [(966, 4, 1, 0, z0, 967), (967, 34, 110, 1, vr 1 0, 970), (970, 4, 2, 0, z0, 971), (971, 34, 228, 1, vr 40 0, 974), (974, 28, 0, 1198, z0, 977), (977, 0, 0, 0, z0, 978), (978, 36, 2, 0, z0, 979)]
def lT25 : List (Nat × Ent) := [(979, 4, 1, 0, z0, 980), (980, 4, 0, 0, z0, 981), (981, 2, 4, 0, z0, 983), (983, 0, 0, 0, vi (1), 984), (984, 9, 0, 0, z0, 985), (985, 31, 1, 0, z0, 986), (986, 4, 0, 0, z0, 987), (987, 2, 4, 0, z0, 989), (989, 0, 0, 0, vi (2), 990), (990, 9, 0, 0, z0, 991), (991, 31, 1, 0, z0, 992), (992, 4, 0, 0, z0, 993), (993, 2, 4, 0, z0, 995), (995, 0, 0, 0, vi (3), 996), (996, 9, 0, 0, z0, 997), (997, 31, 1, 0, z0, 998), (998, 4, 0, 0, z0, 999), (999, 2, 4, 0, z0, 1001), (1001, 0, 0, 0, vi (4), 1002), (1002, 9, 0, 0, z0, 1003), (1003, 31, 1, 0, z0, 1004), (1004, 4, 3, 0, z0, 1005), (1005, 45, 0, 6, z0, 1008), (1008, 5, 5, 0, z0, 1010), (1010, 4, 2, 0, z0, 1011), (1011, 4, 0, 0, z0, 1012), (1012, 2, 4, 0, z0, 1014), (1014, 0, 0, 0, vi (1), 1015), (1015, 9, 0, 0, z0, 1016), (1016, 31, 1, 0, z0, 1017), (1017, 4, 0, 0, z0, 1018), (1018, 2, 4, 0, z0, 1020), (1020, 0, 0, 0, vi (2), 1021), (1021, 9, 0, 0, z0, 1022), (1022, 31, 1, 0, z0, 1023), (1023, 4, 0, 0, z0, 1024), (1024, 2, 4, 0, z0, 1026), (1026, 0, 0, 0, vi (3), 1027), (1027, 9, 0, 0, z0, 1028), (1028, 31, 1, 0, z0, 1029), (1029, 4, 0, 0, z0, 1030), (1030, 2, 4, 0, z0, 1032), (1032, 0, 0, 0, vi (4), 1033), (1033, 9, 0, 0, z0, 1034), (1034, 31, 1, 0, z0, 1035), (1035, 34, 230, 5, vr 40 0, 1038), (1038, 5, 6, 0, z0, 1040), (1040, 4, 2, 0, z0, 1041), (1041, 34, 129, 1, vr 40 0, 1044), (1044, 2, 5, 0, z0, 1046), (1046, 28, 0, 1051, z0, 1049), (1049, 0, 0, 0, z0, 1050), (1050, 36, 2, 0, z0, 1051), (1051, 2, 5, 0, z0, 1053), (1053, 27, 1, 1068, z0, 1056), (1056, 4, 3, 0, z0, 1057), (1057, 0, 0, 0, z0, 1058), (1058, 31, 4, 0, z0, 1059), (1059, 2, 6, 0, z0, 1061), (1061, 19, 0, 0, z0, 1062), (1062, 18, 0, 0, z0, 1063), (1063, 27, 0, 1068, z0, 1066), (1066, 0, 0, 0, z0, 1067), (1067, 36, 2, 0, z0, 1068), (1068, 26, 1198, 0, z0, 1071)]
def lT26 : List (Nat × Ent) := [(1071, 4, 1, 0, z0, 1072), (1072, 4, 0, 0, z0, 1073), (1073, 2, 4, 0, z0, 1075), (1075, 0, 0, 0, vi (1), 1076), (1076, 9, 0, 0, z0, 1077), (1077, 31, 1, 0, z0, 1078), (1078, 4, 0, 0, z0, 1079), (1079, 2, 4, 0, z0, 1081), (1081, 0, 0, 0, vi (2), 1082), (1082, 9, 0, 0, z0, 1083), (1083, 31, 1, 0, z0, 1084), (1084, 4, 0, 0, z0, 1085), (1085, 2, 4, 0, z0, 1087), (1087, 0, 0, 0, vi (3), 1088), (1088, 9, 0, 0, z0, 1089), (1089, 31, 1, 0, z0, 1090), (1090, 34, 111, 4, vr 1 0, 1093), (1093, 4, 2, 0, z0, 1094), (1094, 4, 0, 0, z0, 1095), (1095, 2, 4, 0, z0, 1097), (1097, 0, 0, 0, vi (1), 1098), (1098, 9, 0, 0, z0, 1099), (1099, 31, 1, 0, z0, 1100), (1100, 4, 0, 0, z0, 1101), (1101, 2, 4, 0, z0, 1103), (1103, 0, 0, 0, vi (2), 1104), (1104, 9, 0, 0, z0, 1105), (1105, 31, 1, 0, z0, 1106), (1106, 4, 0, 0, z0, 1107), (1107, 2, 4, 0, z0, 1109), (1109, 0, 0, 0, vi (3), 1110), (1110, 9, 0, 0, z0, 1111), (1111, 31, 1, 0, z0, 1112), (1112, 34, 233, 4, vr 40 0, 1115), (1115, 28, 0, 1198, z0, 1118), (1118, 0, 0, 0, z0, 1119), (1119, 36, 2, 0, z0, 1120)]
def lT27 : List (Nat × Ent) := [(1120, 4, 1, 0, z0, 1121), (1121, 4, 0, 0, z0, 1122), (1122, 2, 4, 0, z0, 1124), (1124, 0, 0, 0, vi (1), 1125), (1125, 9, 0, 0, z0, 1126), (1126, 31, 1, 0, z0, 1127), (1127, 4, 0, 0, z0, 1128), (1128, 2, 4, 0, z0, 1130), (1130, 0, 0, 0, vi (2), 1131), (1131, 9, 0, 0, z0, 1132), (1132, 31, 1, 0, z0, 1133), (1133, 27, 0, 1140, z0, 1136), (1136, 0, 0, 0, vi (1), 1137), (1137, 26, 1141, 0, z0, 1140), (1140, 0, 0, 0, z0, 1141), (1141, 34, 112, 3, vr 1 0, 1144), (1144, 4, 2, 0, z0, 1145), (1145, 4, 0, 0, z0, 1146), (1146, 2, 4, 0, z0, 1148), (1148, 0, 0, 0, vi (1), 1149), (1149, 9, 0, 0, z0, 1150), (1150, 31, 1, 0, z0, 1151), (1151, 4, 0, 0, z0, 1152), (1152, 2, 4, 0, z0, 1154), (1154, 0, 0, 0, vi (2), 1155), (1155, 9, 0, 0, z0, 1156), (1156, 31, 1, 0, z0, 1157), (1157, 27, 0, 1164, z0, 1160), (1160, 0, 0, 0, vi (1), 1161), (1161, 26, 1165, 0, z0, 1164), (1164, 0, 0, 0, z0, 1165), (1165, 34, 234, 3, vr 40 0, 1168), (1168, 28, 0, 1198, z0, 1171), (1171, 0, 0, 0, z0, 1172), (1172, 36, 2, 0, z0, 1173)]
def lT28 : List (Nat × Ent) := [(1173, 4, 1, 0, z0, 1174), (1174, 4, 0, 0, z0, 1175), (1175, 2, 4, 0, z0, 1177), (1177, 0, 0, 0, vi (1), 1178), (1178, 9, 0, 0, z0, 1179), (1179, 31, 1, 0, z0, 1180), (1180, 34, 113, 2, vr 1 0, 1183), (1183, 4, 2, 0, z0, 1184), (1184, 4, 0, 0, z0, 1185), (1185, 2, 4, 0, z0, 1187), (1187, 0, 0, 0, vi (1), 1188), (1188, 9, 0, 0, z0, 1189), (1189, 31, 1, 0, z0, 1190), (1190, 34, 237, 2, vr 40 0, 1193), (1193, 28, 0, 1198, z0, 1196), (1196, 0, 0, 0, z0, 1197), (1197, 36, 2, 0, z0, 1198)]
def lTa : List (Nat × Ent) := [(23, 2, 4, 0, z0, 25), (25, 4, 0, 0, z0, 26), (26, 33, 0, 0, z0, 27), (27, 0, 0, 0, vi (7), 29), (29, 9, 1, 0, z0, 30), (30, 28, 4, 1204, z0, 33), (33, 4, 0, 0, z0, 34), (34, 2, 4, 0, z0, 36), (36, 31, 1, 0, z0, 37), (37, 0, 0, 0, vi (31), 39), (39, 9, 3, 0, z0, 40), (40, 38, 6, 0, z0, 172)]
def lTz : List (Nat × Ent) := [(1198, 8, 4, 0, vi (7), 1201), (1201, 26, 23, 0, z0, 1204), (1204, 0, 0, 0, vi (1), 1205), (1205, 36, 2, 0, z0, 1206)]
theorem lk_0 : subT lT0 = true := by decide +kernel
theorem lk_1 : subT lT1 = true := by decide +kernel
theorem lk_2 : subT lT2 = true := by decide +kernel
theorem lk_3 : subT lT3 = true := by decide +kernel
theorem lk_4 : subT lT4 = true := by decide +kernel
theorem lk_5 : subT lT5 = true := by decide +kernel
theorem lk_6 : subT lT6 = true := by decide +kernel
theorem lk_7 : subT lT7 = true := by decide +kernel
theorem lk_8 : subT lT8 = true := by decide +kernel
theorem lk_9 : subT lT9 = true := by decide +kernel
theorem lk_10 : subT lT10 = true := by decide +kernel
theorem lk_11 : subT lT11 = true := by decide +kernel
theorem lk_12 : subT lT12 = true := by decide +kernel
theorem lk_13 : subT lT13 = true := by decide +kernel
theorem lk_14 : subT lT14 = true := by decide +kernel
theorem lk_15 : subT lT15 = true := by decide +kernel
theorem lk_16 : subT lT16 = true := by decide +kernel
theorem lk_17 : subT lT17 = true := by decide +kernel
theorem lk_18 : subT lT18 = true := by decide +kernel
theorem lk_19 : subT lT19 = true := by decide +kernel
theorem lk_20 : subT lT20 = true := by decide +kernel
theorem lk_21 : subT lT21 = true := by decide +kernel
theorem lk_22 : subT lT22 = true := by decide +kernel
theorem lk_23 : subT lT23 = true := by decide +kernel
theorem lk_24 : subT lT24 = true := by decide +kernel
theorem lk_25 : subT lT25 = true := by decide +kernel
theorem lk_26 : subT lT26 = true := by decide +kernel
theorem lk_27 : subT lT27 = true := by decide +kernel
theorem lk_28 : subT lT28 = true := by decide +kernel
theorem lk_a : subT lTa = true := by decide +kernel
theorem lk_z : subT lTz = true := by decide +kernel
section LC
variable {E : EV} {d i x N : Nat} {F : FT} {G : GT} {b : Bool} {o : SG}
theorem lc_0 (hE : E.2.2 = orcL) (hq : NX E d i x N) (h : CInv F G b o) (hm : MI2 F G o) (hw : WF o) (hi : i + 7 ≤ E.1) (hN : E.1 ≤ 3584) (hd : 200 ≤ d) : LT E d 172 [some (vr 0 0), some (vr 1 0), some (vr 40 0), some (vr 81 0), some (vi (nI i)), none, none] [] x F G b N := by
  refine lt_run lk_0 5 rfl ?_
  refine lt_sc lk_0 rfl (nI_add i 1) (by omega) hN ?_
  refine lt_run lk_0 7 rfl ?_
  refine lt_sc lk_0 rfl (nI_add i 2) (by omega) hN ?_
  refine lt_run lk_0 8 rfl ?_
  refine lt_sc lk_0 rfl (nI_add i 3) (by omega) hN ?_
  refine lt_run lk_0 7 rfl ?_
  refine lt_sc lk_0 rfl (nI_add i 4) (by omega) hN ?_
  refine lt_run lk_0 8 rfl ?_
  refine lt_sc lk_0 rfl (nI_add i 5) (by omega) hN ?_
  refine lt_run lk_0 7 rfl ?_
  refine lt_sc lk_0 rfl (nI_add i 6) (by omega) hN ?_
  refine lt_run lk_0 4 rfl ?_
  refine lt_call 4 lk_0 rfl (by omega) (Nat.le_of_ble_eq_true rfl) rfl (Nat.le_of_ble_eq_true rfl) (Nat.le_of_ble_eq_true rfl) (recv_ok rfl (Nat.le_of_ble_eq_true rfl)) rfl (a_feed h (by omega)) rfl (fun F1 G1 p1 => ?_)
  have hm1 := CPost.m p1 hm
  refine lt_run lk_0 5 rfl ?_
  refine lt_sc lk_0 rfl (nI_add i 1) (by omega) hN ?_
  refine lt_run lk_0 7 rfl ?_
  refine lt_sc lk_0 rfl (nI_add i 2) (by omega) hN ?_
  refine lt_run lk_0 8 rfl ?_
  refine lt_sc lk_0 rfl (nI_add i 3) (by omega) hN ?_
  refine lt_run lk_0 7 rfl ?_
  refine lt_sc lk_0 rfl (nI_add i 4) (by omega) hN ?_
  refine lt_run lk_0 8 rfl ?_
  refine lt_sc lk_0 rfl (nI_add i 5) (by omega) hN ?_
  refine lt_run lk_0 7 rfl ?_
  refine lt_sc lk_0 rfl (nI_add i 6) (by omega) hN ?_
  refine lt_run lk_0 4 rfl ?_
  refine lt_call 4 lk_0 rfl (by omega) (Nat.le_of_ble_eq_true rfl) rfl (Nat.le_of_ble_eq_true rfl) (Nat.le_of_ble_eq_true rfl) (recv_ok rfl (Nat.le_of_ble_eq_true rfl)) rfl (e_feed hm1.1 hw (by omega)) rfl (fun F2 G2 p2 => ?_)
  have p3 := MPost.p2 p2 hm1.2 rfl
  refine lt_eq lk_0 rfl ?_
  exact hq _ F2 G2 _ _ (by omega) (MP2.c p3 p1.1) p3.1 (w_feed hw)
theorem lc_1 (hE : E.2.2 = orcL) (hq : NX E d i x N) (h : CInv F G b o) (hm : MI2 F G o) (hw : WF o) (hi : i + 7 ≤ E.1) (hN : E.1 ≤ 3584) (hd : 200 ≤ d) : LT E d 319 [some (vr 0 0), some (vr 1 0), some (vr 40 0), some (vr 81 0), some (vi (nI i)), none, none] [] x F G b N := by
  refine lt_run lk_1 1 rfl ?_
  refine lt_callE 1 (by rw [hE]; exact orcL_A) lk_1 rfl (by omega) (Nat.le_of_ble_eq_true rfl) rfl (Nat.le_of_ble_eq_true rfl) (Nat.le_of_ble_eq_true rfl) (recv_ok rfl (Nat.le_of_ble_eq_true rfl)) rfl (a_land (by rw [hE]; exact orcL_A) h hw (by omega)) rfl (fun x1 b1 F1 G1 p1 => ?_)
  obtain ⟨rfl, p1⟩ := p1
  have hm1 := CPost.m p1 hm
  refine lt_run lk_1 1 rfl ?_
  refine lt_call 1 lk_1 rfl (by omega) (Nat.le_of_ble_eq_true rfl) rfl (Nat.le_of_ble_eq_true rfl) (Nat.le_of_ble_eq_true rfl) (recv_ok rfl (Nat.le_of_ble_eq_true rfl)) rfl (e_land hm1 hw (by omega)) rfl (fun F2 G2 p3 => ?_)
  refine lt_eq lk_1 rfl ?_
  exact hq _ F2 G2 _ _ (by omega) (MP2.c p3 p1.1) p3.1 (wf_land hw)
theorem lc_2 (hE : E.2.2 = orcL) (hq : NX E d i x N) (h : CInv F G b o) (hm : MI2 F G o) (hw : WF o) (hi : i + 7 ≤ E.1) (hN : E.1 ≤ 3584) (hd : 200 ≤ d) : LT E d 332 [some (vr 0 0), some (vr 1 0), some (vr 40 0), some (vr 81 0), some (vi (nI i)), none, none] [] x F G b N := by
  refine lt_run lk_2 1 rfl ?_
  refine lt_call 1 lk_2 rfl (by omega) (Nat.le_of_ble_eq_true rfl) rfl (Nat.le_of_ble_eq_true rfl) (Nat.le_of_ble_eq_true rfl) (recv_ok rfl (Nat.le_of_ble_eq_true rfl)) rfl (a_week h hw (by omega)) rfl (fun F1 G1 p1 => ?_)
  have hm1 := CPost.m p1 hm
  refine lt_run lk_2 1 rfl ?_
  refine lt_call 1 lk_2 rfl (by omega) (Nat.le_of_ble_eq_true rfl) rfl (Nat.le_of_ble_eq_true rfl) (Nat.le_of_ble_eq_true rfl) (recv_ok rfl (Nat.le_of_ble_eq_true rfl)) rfl (m_week hm1 hw (by omega)) rfl (fun F2 G2 p3 => ?_)
  refine lt_eq lk_2 rfl ?_
  exact hq _ F2 G2 _ _ (by omega) (MP2.c p3 p1.1) p3.1 (wf_week hw)
theorem lc_3 (hE : E.2.2 = orcL) (hq : NX E d i x N) (h : CInv F G b o) (hm : MI2 F G o) (hw : WF o) (hi : i + 7 ≤ E.1) (hN : E.1 ≤ 3584) (hd : 200 ≤ d) : LT E d 345 [some (vr 0 0), some (vr 1 0), some (vr 40 0), some (vr 81 0), some (vi (nI i)), none, none] [] x F G b N := by
  refine lt_run lk_3 5 rfl ?_
  refine lt_sc lk_3 rfl (nI_add i 1) (by omega) hN ?_
  refine lt_run lk_3 4 rfl ?_
  refine lt_sc lk_3 rfl (nI_add i 2) (by omega) hN ?_
  refine lt_call 3 lk_3 rfl (by omega) (Nat.le_of_ble_eq_true rfl) rfl (Nat.le_of_ble_eq_true rfl) (Nat.le_of_ble_eq_true rfl) (recv_ok rfl (Nat.le_of_ble_eq_true rfl)) rfl (a_person h hw (by omega)) rfl (fun F1 G1 p1 => ?_)
  have hm1 := CPost.m p1 hm
  refine lt_run lk_3 5 rfl ?_
  refine lt_sc lk_3 rfl (nI_add i 1) (by omega) hN ?_
  refine lt_run lk_3 4 rfl ?_
  refine lt_sc lk_3 rfl (nI_add i 2) (by omega) hN ?_
  refine lt_call 3 lk_3 rfl (by omega) (Nat.le_of_ble_eq_true rfl) rfl (Nat.le_of_ble_eq_true rfl) (Nat.le_of_ble_eq_true rfl) (recv_ok rfl (Nat.le_of_ble_eq_true rfl)) rfl (e_person hm1.1 hw (by omega)) rfl (fun F2 G2 p2 => ?_)
  have p3 := MPost.p2 p2 hm1.2 rfl
  refine lt_eq lk_3 rfl ?_
  exact hq _ F2 G2 _ _ (by omega) (MP2.c p3 p1.1) p3.1 hw
theorem lc_4 (hE : E.2.2 = orcL) (hq : NX E d i x N) (h : CInv F G b o) (hm : MI2 F G o) (hw : WF o) (hi : i + 7 ≤ E.1) (hN : E.1 ≤ 3584) (hd : 200 ≤ d) : LT E d 382 [some (vr 0 0), some (vr 1 0), some (vr 40 0), some (vr 81 0), some (vi (nI i)), none, none] [] x F G b N := by
  refine lt_run lk_4 5 rfl ?_
  refine lt_sc lk_4 rfl (nI_add i 1) (by omega) hN ?_
  refine lt_run lk_4 4 rfl ?_
  refine lt_sc lk_4 rfl (nI_add i 2) (by omega) hN ?_
  refine lt_call 3 lk_4 rfl (by omega) (Nat.le_of_ble_eq_true rfl) rfl (Nat.le_of_ble_eq_true rfl) (Nat.le_of_ble_eq_true rfl) (recv_ok rfl (Nat.le_of_ble_eq_true rfl)) rfl (a_wound h hw (by omega)) rfl (fun F1 G1 p1 => ?_)
  have hm1 := CPost.m p1 hm
  refine lt_run lk_4 5 rfl ?_
  refine lt_sc lk_4 rfl (nI_add i 1) (by omega) hN ?_
  refine lt_run lk_4 4 rfl ?_
  refine lt_sc lk_4 rfl (nI_add i 2) (by omega) hN ?_
  refine lt_call 3 lk_4 rfl (by omega) (Nat.le_of_ble_eq_true rfl) rfl (Nat.le_of_ble_eq_true rfl) (Nat.le_of_ble_eq_true rfl) (recv_ok rfl (Nat.le_of_ble_eq_true rfl)) rfl (e_wound hm1.1 hw (by omega)) rfl (fun F2 G2 p2 => ?_)
  have p3 := MPost.p2 p2 hm1.2 rfl
  refine lt_eq lk_4 rfl ?_
  exact hq _ F2 G2 _ _ (by omega) (MP2.c p3 p1.1) p3.1 hw
theorem lc_5 (hE : E.2.2 = orcL) (hq : NX E d i x N) (h : CInv F G b o) (hm : MI2 F G o) (hw : WF o) (hi : i + 7 ≤ E.1) (hN : E.1 ≤ 3584) (hd : 200 ≤ d) : LT E d 419 [some (vr 0 0), some (vr 1 0), some (vr 40 0), some (vr 81 0), some (vi (nI i)), none, none] [] x F G b N := by
  refine lt_run lk_5 5 rfl ?_
  refine lt_sc lk_5 rfl (nI_add i 1) (by omega) hN ?_
  refine lt_call 2 lk_5 rfl (by omega) (Nat.le_of_ble_eq_true rfl) rfl (Nat.le_of_ble_eq_true rfl) (Nat.le_of_ble_eq_true rfl) (recv_ok rfl (Nat.le_of_ble_eq_true rfl)) rfl (a_lanes h hw (by omega)) rfl (fun F1 G1 p1 => ?_)
  have hm1 := CPost.m p1 hm
  refine lt_run lk_5 5 rfl ?_
  refine lt_sc lk_5 rfl (nI_add i 1) (by omega) hN ?_
  refine lt_call 2 lk_5 rfl (by omega) (Nat.le_of_ble_eq_true rfl) rfl (Nat.le_of_ble_eq_true rfl) (Nat.le_of_ble_eq_true rfl) (recv_ok rfl (Nat.le_of_ble_eq_true rfl)) rfl (e_lanes hm1.1 hw (by omega)) rfl (fun F2 G2 p2 => ?_)
  have p3 := MPost.p2 p2 hm1.2 rfl
  refine lt_eq lk_5 rfl ?_
  exact hq _ F2 G2 _ _ (by omega) (MP2.c p3 p1.1) p3.1 hw
theorem lc_6 (hE : E.2.2 = orcL) (hq : NX E d i x N) (h : CInv F G b o) (hm : MI2 F G o) (hw : WF o) (hi : i + 7 ≤ E.1) (hN : E.1 ≤ 3584) (hd : 200 ≤ d) : LT E d 444 [some (vr 0 0), some (vr 1 0), some (vr 40 0), some (vr 81 0), some (vi (nI i)), none, none] [] x F G b N := by
  refine lt_run lk_6 5 rfl ?_
  refine lt_sc lk_6 rfl (nI_add i 1) (by omega) hN ?_
  refine lt_run lk_6 4 rfl ?_
  refine lt_sc lk_6 rfl (nI_add i 2) (by omega) hN ?_
  refine lt_call 3 lk_6 rfl (by omega) (Nat.le_of_ble_eq_true rfl) rfl (Nat.le_of_ble_eq_true rfl) (Nat.le_of_ble_eq_true rfl) (recv_ok rfl (Nat.le_of_ble_eq_true rfl)) rfl (a_gives h hw (by omega)) rfl (fun F1 G1 p1 => ?_)
  have hm1 := CPost.m p1 hm
  refine lt_run lk_6 5 rfl ?_
  refine lt_sc lk_6 rfl (nI_add i 1) (by omega) hN ?_
  refine lt_run lk_6 4 rfl ?_
  refine lt_sc lk_6 rfl (nI_add i 2) (by omega) hN ?_
  refine lt_call 3 lk_6 rfl (by omega) (Nat.le_of_ble_eq_true rfl) rfl (Nat.le_of_ble_eq_true rfl) (Nat.le_of_ble_eq_true rfl) (recv_ok rfl (Nat.le_of_ble_eq_true rfl)) rfl (e_gives hm1.1 hw (by omega)) rfl (fun F2 G2 p2 => ?_)
  have p3 := MPost.p2 p2 hm1.2 rfl
  refine lt_eq lk_6 rfl ?_
  exact hq _ F2 G2 _ _ (by omega) (MP2.c p3 p1.1) p3.1 hw
theorem lc_7 (hE : E.2.2 = orcL) (hq : NX E d i x N) (h : CInv F G b o) (hm : MI2 F G o) (hw : WF o) (hi : i + 7 ≤ E.1) (hN : E.1 ≤ 3584) (hd : 200 ≤ d) : LT E d 481 [some (vr 0 0), some (vr 1 0), some (vr 40 0), some (vr 81 0), some (vi (nI i)), none, none] [] x F G b N := by
  refine lt_run lk_7 5 rfl ?_
  refine lt_sc lk_7 rfl (nI_add i 1) (by omega) hN ?_
  refine lt_run lk_7 4 rfl ?_
  refine lt_sc lk_7 rfl (nI_add i 2) (by omega) hN ?_
  refine lt_call 3 lk_7 rfl (by omega) (Nat.le_of_ble_eq_true rfl) rfl (Nat.le_of_ble_eq_true rfl) (Nat.le_of_ble_eq_true rfl) (recv_ok rfl (Nat.le_of_ble_eq_true rfl)) rfl (a_walk h hw (by omega)) rfl (fun F1 G1 p1 => ?_)
  have hm1 := CPost.m p1 hm
  refine lt_run lk_7 5 rfl ?_
  refine lt_sc lk_7 rfl (nI_add i 1) (by omega) hN ?_
  refine lt_run lk_7 4 rfl ?_
  refine lt_sc lk_7 rfl (nI_add i 2) (by omega) hN ?_
  refine lt_call 3 lk_7 rfl (by omega) (Nat.le_of_ble_eq_true rfl) rfl (Nat.le_of_ble_eq_true rfl) (Nat.le_of_ble_eq_true rfl) (recv_ok rfl (Nat.le_of_ble_eq_true rfl)) rfl (e_walk hm1.1 hw (by omega)) rfl (fun F2 G2 p2 => ?_)
  have p3 := MPost.p2 p2 hm1.2 ol_walk
  refine lt_eq lk_7 rfl ?_
  exact hq _ F2 G2 _ _ (by omega) (MP2.c p3 p1.1) p3.1 (w_walk hw)
theorem lc_8 (hE : E.2.2 = orcL) (hq : NX E d i x N) (h : CInv F G b o) (hm : MI2 F G o) (hw : WF o) (hi : i + 7 ≤ E.1) (hN : E.1 ≤ 3584) (hd : 200 ≤ d) : LT E d 518 [some (vr 0 0), some (vr 1 0), some (vr 40 0), some (vr 81 0), some (vi (nI i)), none, none] [] x F G b N := by
  refine lt_run lk_8 5 rfl ?_
  refine lt_sc lk_8 rfl (nI_add i 1) (by omega) hN ?_
  refine lt_run lk_8 4 rfl ?_
  refine lt_sc lk_8 rfl (nI_add i 2) (by omega) hN ?_
  refine lt_call 3 lk_8 rfl (by omega) (Nat.le_of_ble_eq_true rfl) rfl (Nat.le_of_ble_eq_true rfl) (Nat.le_of_ble_eq_true rfl) (recv_ok rfl (Nat.le_of_ble_eq_true rfl)) rfl (a_wind h hw (by omega)) rfl (fun F1 G1 p1 => ?_)
  have hm1 := CPost.m p1 hm
  refine lt_run lk_8 5 rfl ?_
  refine lt_sc lk_8 rfl (nI_add i 1) (by omega) hN ?_
  refine lt_run lk_8 4 rfl ?_
  refine lt_sc lk_8 rfl (nI_add i 2) (by omega) hN ?_
  refine lt_call 3 lk_8 rfl (by omega) (Nat.le_of_ble_eq_true rfl) rfl (Nat.le_of_ble_eq_true rfl) (Nat.le_of_ble_eq_true rfl) (recv_ok rfl (Nat.le_of_ble_eq_true rfl)) rfl (e_wind hm1.1 hw (by omega)) rfl (fun F2 G2 p2 => ?_)
  have p3 := MPost.p2 p2 hm1.2 ol_wind
  refine lt_eq lk_8 rfl ?_
  exact hq _ F2 G2 _ _ (by omega) (MP2.c p3 p1.1) p3.1 (w_wind hw)
theorem lc_9 (hE : E.2.2 = orcL) (hq : NX E d i x N) (h : CInv F G b o) (hm : MI2 F G o) (hw : WF o) (hi : i + 7 ≤ E.1) (hN : E.1 ≤ 3584) (hd : 200 ≤ d) : LT E d 555 [some (vr 0 0), some (vr 1 0), some (vr 40 0), some (vr 81 0), some (vi (nI i)), none, none] [] x F G b N := by
  refine lt_run lk_9 5 rfl ?_
  refine lt_sc lk_9 rfl (nI_add i 1) (by omega) hN ?_
  refine lt_call 2 lk_9 rfl (by omega) (Nat.le_of_ble_eq_true rfl) rfl (Nat.le_of_ble_eq_true rfl) (Nat.le_of_ble_eq_true rfl) (recv_ok rfl (Nat.le_of_ble_eq_true rfl)) rfl (a_mend h hw (by omega)) rfl (fun F1 G1 p1 => ?_)
  have hm1 := CPost.m p1 hm
  refine lt_run lk_9 5 rfl ?_
  refine lt_sc lk_9 rfl (nI_add i 1) (by omega) hN ?_
  refine lt_call 2 lk_9 rfl (by omega) (Nat.le_of_ble_eq_true rfl) rfl (Nat.le_of_ble_eq_true rfl) (Nat.le_of_ble_eq_true rfl) (recv_ok rfl (Nat.le_of_ble_eq_true rfl)) rfl (e_mend hm1.1 hw (by omega)) rfl (fun F2 G2 p2 => ?_)
  have p3 := MPost.p2 p2 hm1.2 ol_mend
  refine lt_eq lk_9 rfl ?_
  exact hq _ F2 G2 _ _ (by omega) (MP2.c p3 p1.1) p3.1 (w_mend hw)
theorem lc_10 (hE : E.2.2 = orcL) (hq : NX E d i x N) (h : CInv F G b o) (hm : MI2 F G o) (hw : WF o) (hi : i + 7 ≤ E.1) (hN : E.1 ≤ 3584) (hd : 200 ≤ d) : LT E d 580 [some (vr 0 0), some (vr 1 0), some (vr 40 0), some (vr 81 0), some (vi (nI i)), none, none] [] x F G b N := by
  refine lt_run lk_10 1 rfl ?_
  refine lt_call 1 lk_10 rfl (by omega) (Nat.le_of_ble_eq_true rfl) rfl (Nat.le_of_ble_eq_true rfl) (Nat.le_of_ble_eq_true rfl) (recv_ok rfl (Nat.le_of_ble_eq_true rfl)) rfl (a_hourP h hw (by omega)) rfl (fun F1 G1 p1 => ?_)
  have hm1 := CPost.m p1 hm
  refine lt_run lk_10 1 rfl ?_
  refine lt_call 1 lk_10 rfl (by omega) (Nat.le_of_ble_eq_true rfl) rfl (Nat.le_of_ble_eq_true rfl) (Nat.le_of_ble_eq_true rfl) (recv_ok rfl (Nat.le_of_ble_eq_true rfl)) rfl (e_hour hm1.1 hw (by omega)) rfl (fun F2 G2 p2 => ?_)
  have p3 := MPost.p2 p2 hm1.2 rfl
  refine lt_eq lk_10 rfl ?_
  exact hq _ F2 G2 _ _ (by omega) (MP2.c p3 p1.1) p3.1 (w_hour hw)
theorem lc_11 (hE : E.2.2 = orcL) (hq : NX E d i x N) (h : CInv F G b o) (hm : MI2 F G o) (hw : WF o) (hi : i + 7 ≤ E.1) (hN : E.1 ≤ 3584) (hd : 200 ≤ d) : LT E d 593 [some (vr 0 0), some (vr 1 0), some (vr 40 0), some (vr 81 0), some (vi (nI i)), none, none] [] x F G b N := by
  refine lt_run lk_11 1 rfl ?_
  refine lt_call 1 lk_11 rfl (by omega) (Nat.le_of_ble_eq_true rfl) rfl (Nat.le_of_ble_eq_true rfl) (Nat.le_of_ble_eq_true rfl) (recv_ok rfl (Nat.le_of_ble_eq_true rfl)) rfl (a_undo h hw (by omega)) rfl (fun F1 G1 p1 => ?_)
  have hm1 := CPost.m p1 hm
  refine lt_run lk_11 1 rfl ?_
  refine lt_call 1 lk_11 rfl (by omega) (Nat.le_of_ble_eq_true rfl) rfl (Nat.le_of_ble_eq_true rfl) (Nat.le_of_ble_eq_true rfl) (recv_ok rfl (Nat.le_of_ble_eq_true rfl)) rfl (e_undo hm1.1 hw (by omega)) rfl (fun F2 G2 p2 => ?_)
  have p3 := MPost.p2 p2 hm1.2 ol_undo
  refine lt_eq lk_11 rfl ?_
  exact hq _ F2 G2 _ _ (by omega) (MP2.c p3 p1.1) p3.1 (w_undo hw)
theorem lc_12 (hE : E.2.2 = orcL) (hq : NX E d i x N) (h : CInv F G b o) (hm : MI2 F G o) (hw : WF o) (hi : i + 7 ≤ E.1) (hN : E.1 ≤ 3584) (hd : 200 ≤ d) : LT E d 606 [some (vr 0 0), some (vr 1 0), some (vr 40 0), some (vr 81 0), some (vi (nI i)), none, none] [] x F G b N := by
  refine lt_run lk_12 5 rfl ?_
  refine lt_sc lk_12 rfl (nI_add i 1) (by omega) hN ?_
  refine lt_call 2 lk_12 rfl (by omega) (Nat.le_of_ble_eq_true rfl) rfl (Nat.le_of_ble_eq_true rfl) (Nat.le_of_ble_eq_true rfl) (recv_ok rfl (Nat.le_of_ble_eq_true rfl)) rfl (a_judged h hw (by omega)) rfl (fun F1 G1 p1 => ?_)
  have hm1 := CPost.m p1 hm
  refine lt_run lk_12 5 rfl ?_
  refine lt_sc lk_12 rfl (nI_add i 1) (by omega) hN ?_
  refine lt_call 2 lk_12 rfl (by omega) (Nat.le_of_ble_eq_true rfl) rfl (Nat.le_of_ble_eq_true rfl) (Nat.le_of_ble_eq_true rfl) (recv_ok rfl (Nat.le_of_ble_eq_true rfl)) rfl (e_judged hm1.1 hw (by omega)) rfl (fun F2 G2 p2 => ?_)
  have p3 := MPost.p2 p2 hm1.2 rfl
  refine lt_eq lk_12 rfl ?_
  exact hq _ F2 G2 _ _ (by omega) (MP2.c p3 p1.1) p3.1 hw
theorem lc_13 (hE : E.2.2 = orcL) (hq : NX E d i x N) (h : CInv F G b o) (hm : MI2 F G o) (hw : WF o) (hi : i + 7 ≤ E.1) (hN : E.1 ≤ 3584) (hd : 200 ≤ d) : LT E d 631 [some (vr 0 0), some (vr 1 0), some (vr 40 0), some (vr 81 0), some (vi (nI i)), none, none] [] x F G b N := by
  refine lt_run lk_13 5 rfl ?_
  refine lt_sc lk_13 rfl (nI_add i 1) (by omega) hN ?_
  refine lt_call 2 lk_13 rfl (by omega) (Nat.le_of_ble_eq_true rfl) rfl (Nat.le_of_ble_eq_true rfl) (Nat.le_of_ble_eq_true rfl) (recv_ok rfl (Nat.le_of_ble_eq_true rfl)) rfl (a_stops h hw (by omega)) rfl (fun F1 G1 p1 => ?_)
  have hm1 := CPost.m p1 hm
  refine lt_run lk_13 5 rfl ?_
  refine lt_sc lk_13 rfl (nI_add i 1) (by omega) hN ?_
  refine lt_call 2 lk_13 rfl (by omega) (Nat.le_of_ble_eq_true rfl) rfl (Nat.le_of_ble_eq_true rfl) (Nat.le_of_ble_eq_true rfl) (recv_ok rfl (Nat.le_of_ble_eq_true rfl)) rfl (e_stops hm1.1 hw (by omega)) rfl (fun F2 G2 p2 => ?_)
  have p3 := MPost.p2 p2 hm1.2 rfl
  refine lt_eq lk_13 rfl ?_
  exact hq _ F2 G2 _ _ (by omega) (MP2.c p3 p1.1) p3.1 hw
theorem lc_14 (hE : E.2.2 = orcL) (hq : NX E d i x N) (h : CInv F G b o) (hm : MI2 F G o) (hw : WF o) (hi : i + 7 ≤ E.1) (hN : E.1 ≤ 3584) (hd : 200 ≤ d) : LT E d 656 [some (vr 0 0), some (vr 1 0), some (vr 40 0), some (vr 81 0), some (vi (nI i)), none, none] [] x F G b N := by
  refine lt_run lk_14 1 rfl ?_
  refine lt_call 1 lk_14 rfl (by omega) (Nat.le_of_ble_eq_true rfl) rfl (Nat.le_of_ble_eq_true rfl) (Nat.le_of_ble_eq_true rfl) (recv_ok rfl (Nat.le_of_ble_eq_true rfl)) rfl (a_august h hw (by omega)) rfl (fun F1 G1 p1 => ?_)
  have hm1 := CPost.m p1 hm
  refine lt_run lk_14 1 rfl ?_
  refine lt_call 1 lk_14 rfl (by omega) (Nat.le_of_ble_eq_true rfl) rfl (Nat.le_of_ble_eq_true rfl) (Nat.le_of_ble_eq_true rfl) (recv_ok rfl (Nat.le_of_ble_eq_true rfl)) rfl (e_august hm1.1 hw (by omega)) rfl (fun F2 G2 p2 => ?_)
  have p3 := MPost.p2 p2 hm1.2 rfl
  refine lt_eq lk_14 rfl ?_
  exact hq _ F2 G2 _ _ (by omega) (MP2.c p3 p1.1) p3.1 hw
theorem lc_15 (hE : E.2.2 = orcL) (hq : NX E d i x N) (h : CInv F G b o) (hm : MI2 F G o) (hw : WF o) (hi : i + 7 ≤ E.1) (hN : E.1 ≤ 3584) (hd : 200 ≤ d) : LT E d 669 [some (vr 0 0), some (vr 1 0), some (vr 40 0), some (vr 81 0), some (vi (nI i)), none, none] [] x F G b N := by
  refine lt_run lk_15 5 rfl ?_
  refine lt_sc lk_15 rfl (nI_add i 1) (by omega) hN ?_
  refine lt_run lk_15 4 rfl ?_
  refine lt_sc lk_15 rfl (nI_add i 2) (by omega) hN ?_
  refine lt_run lk_15 4 rfl ?_
  refine lt_sc lk_15 rfl (nI_add i 3) (by omega) hN ?_
  refine lt_call 4 lk_15 rfl (by omega) (Nat.le_of_ble_eq_true rfl) rfl (Nat.le_of_ble_eq_true rfl) (Nat.le_of_ble_eq_true rfl) (recv_ok rfl (Nat.le_of_ble_eq_true rfl)) rfl (a_plan h hw (by omega)) rfl (fun F1 G1 p1 => ?_)
  have hm1 := CPost.m p1 hm
  refine lt_run lk_15 5 rfl ?_
  refine lt_sc lk_15 rfl (nI_add i 1) (by omega) hN ?_
  refine lt_run lk_15 4 rfl ?_
  refine lt_sc lk_15 rfl (nI_add i 2) (by omega) hN ?_
  refine lt_run lk_15 4 rfl ?_
  refine lt_sc lk_15 rfl (nI_add i 3) (by omega) hN ?_
  refine lt_call 4 lk_15 rfl (by omega) (Nat.le_of_ble_eq_true rfl) rfl (Nat.le_of_ble_eq_true rfl) (Nat.le_of_ble_eq_true rfl) (recv_ok rfl (Nat.le_of_ble_eq_true rfl)) rfl (e_plan hm1.1 hw (by omega)) rfl (fun F2 G2 p2 => ?_)
  have p3 := MPost.p2 p2 hm1.2 rfl
  refine lt_eq lk_15 rfl ?_
  exact hq _ F2 G2 _ _ (by omega) (MP2.c p3 p1.1) p3.1 hw
theorem lc_16 (hE : E.2.2 = orcL) (hq : NX E d i x N) (h : CInv F G b o) (hm : MI2 F G o) (hw : WF o) (hi : i + 7 ≤ E.1) (hN : E.1 ≤ 3584) (hd : 200 ≤ d) : LT E d 718 [some (vr 0 0), some (vr 1 0), some (vr 40 0), some (vr 81 0), some (vi (nI i)), none, none] [] x F G b N := by
  refine lt_run lk_16 5 rfl ?_
  refine lt_sc lk_16 rfl (nI_add i 1) (by omega) hN ?_
  refine lt_call 2 lk_16 rfl (by omega) (Nat.le_of_ble_eq_true rfl) rfl (Nat.le_of_ble_eq_true rfl) (Nat.le_of_ble_eq_true rfl) (recv_ok rfl (Nat.le_of_ble_eq_true rfl)) rfl (a_stand h hw (by omega)) rfl (fun F1 G1 p1 => ?_)
  have hm1 := CPost.m p1 hm
  refine lt_run lk_16 5 rfl ?_
  refine lt_sc lk_16 rfl (nI_add i 1) (by omega) hN ?_
  refine lt_call 2 lk_16 rfl (by omega) (Nat.le_of_ble_eq_true rfl) rfl (Nat.le_of_ble_eq_true rfl) (Nat.le_of_ble_eq_true rfl) (recv_ok rfl (Nat.le_of_ble_eq_true rfl)) rfl (e_stand hm1.1 hw (by omega)) rfl (fun F2 G2 p2 => ?_)
  have p3 := MPost.p2 p2 hm1.2 rfl
  refine lt_eq lk_16 rfl ?_
  exact hq _ F2 G2 _ _ (by omega) (MP2.c p3 p1.1) p3.1 hw
theorem lc_17 (hE : E.2.2 = orcL) (hq : NX E d i x N) (h : CInv F G b o) (hm : MI2 F G o) (hw : WF o) (hi : i + 7 ≤ E.1) (hN : E.1 ≤ 3584) (hd : 200 ≤ d) : LT E d 743 [some (vr 0 0), some (vr 1 0), some (vr 40 0), some (vr 81 0), some (vi (nI i)), none, none] [] x F G b N := by
  refine lt_run lk_17 5 rfl ?_
  refine lt_sc lk_17 rfl (nI_add i 1) (by omega) hN ?_
  refine lt_run lk_17 4 rfl ?_
  refine lt_sc lk_17 rfl (nI_add i 2) (by omega) hN ?_
  refine lt_call 3 lk_17 rfl (by omega) (Nat.le_of_ble_eq_true rfl) rfl (Nat.le_of_ble_eq_true rfl) (Nat.le_of_ble_eq_true rfl) (recv_ok rfl (Nat.le_of_ble_eq_true rfl)) rfl (a_fewest h hw (by omega)) rfl (fun F1 G1 p1 => ?_)
  have hm1 := CPost.m p1 hm
  refine lt_run lk_17 5 rfl ?_
  refine lt_sc lk_17 rfl (nI_add i 1) (by omega) hN ?_
  refine lt_run lk_17 4 rfl ?_
  refine lt_sc lk_17 rfl (nI_add i 2) (by omega) hN ?_
  refine lt_call 3 lk_17 rfl (by omega) (Nat.le_of_ble_eq_true rfl) rfl (Nat.le_of_ble_eq_true rfl) (Nat.le_of_ble_eq_true rfl) (recv_ok rfl (Nat.le_of_ble_eq_true rfl)) rfl (e_fewest hm1.1 hw (by omega)) rfl (fun F2 G2 p2 => ?_)
  have p3 := MPost.p2 p2 hm1.2 rfl
  refine lt_eq lk_17 rfl ?_
  exact hq _ F2 G2 _ _ (by omega) (MP2.c p3 p1.1) p3.1 hw
theorem lc_18 (hE : E.2.2 = orcL) (hq : NX E d i x N) (h : CInv F G b o) (hm : MI2 F G o) (hw : WF o) (hi : i + 7 ≤ E.1) (hN : E.1 ≤ 3584) (hd : 200 ≤ d) : LT E d 780 [some (vr 0 0), some (vr 1 0), some (vr 40 0), some (vr 81 0), some (vi (nI i)), none, none] [] x F G b N := by
  refine lt_run lk_18 5 rfl ?_
  refine lt_sc lk_18 rfl (nI_add i 1) (by omega) hN ?_
  refine lt_run lk_18 4 rfl ?_
  refine lt_sc lk_18 rfl (nI_add i 2) (by omega) hN ?_
  refine lt_call 3 lk_18 rfl (by omega) (Nat.le_of_ble_eq_true rfl) rfl (Nat.le_of_ble_eq_true rfl) (Nat.le_of_ble_eq_true rfl) (recv_ok rfl (Nat.le_of_ble_eq_true rfl)) rfl (a_tale h hw (by omega)) rfl (fun F1 G1 p1 => ?_)
  have hm1 := CPost.m p1 hm
  refine lt_run lk_18 5 rfl ?_
  refine lt_sc lk_18 rfl (nI_add i 1) (by omega) hN ?_
  refine lt_run lk_18 4 rfl ?_
  refine lt_sc lk_18 rfl (nI_add i 2) (by omega) hN ?_
  refine lt_call 3 lk_18 rfl (by omega) (Nat.le_of_ble_eq_true rfl) rfl (Nat.le_of_ble_eq_true rfl) (Nat.le_of_ble_eq_true rfl) (recv_ok rfl (Nat.le_of_ble_eq_true rfl)) rfl (e_tale hm1.1 hw (by omega)) rfl (fun F2 G2 p2 => ?_)
  have p3 := MPost.p2 p2 hm1.2 ol_tale
  refine lt_eq lk_18 rfl ?_
  exact hq _ F2 G2 _ _ (by omega) (MP2.c p3 p1.1) p3.1 (w_tale hw)
theorem lc_19 (hE : E.2.2 = orcL) (hq : NX E d i x N) (h : CInv F G b o) (hm : MI2 F G o) (hw : WF o) (hi : i + 7 ≤ E.1) (hN : E.1 ≤ 3584) (hd : 200 ≤ d) : LT E d 817 [some (vr 0 0), some (vr 1 0), some (vr 40 0), some (vr 81 0), some (vi (nI i)), none, none] [] x F G b N := by
  refine lt_run lk_19 5 rfl ?_
  refine lt_sc lk_19 rfl (nI_add i 1) (by omega) hN ?_
  refine lt_run lk_19 4 rfl ?_
  refine lt_sc lk_19 rfl (nI_add i 2) (by omega) hN ?_
  refine lt_call 3 lk_19 rfl (by omega) (Nat.le_of_ble_eq_true rfl) rfl (Nat.le_of_ble_eq_true rfl) (Nat.le_of_ble_eq_true rfl) (recv_ok rfl (Nat.le_of_ble_eq_true rfl)) rfl (a_sets h hw (by omega)) rfl (fun F1 G1 p1 => ?_)
  have hm1 := CPost.m p1 hm
  refine lt_run lk_19 5 rfl ?_
  refine lt_sc lk_19 rfl (nI_add i 1) (by omega) hN ?_
  refine lt_run lk_19 4 rfl ?_
  refine lt_sc lk_19 rfl (nI_add i 2) (by omega) hN ?_
  refine lt_call 3 lk_19 rfl (by omega) (Nat.le_of_ble_eq_true rfl) rfl (Nat.le_of_ble_eq_true rfl) (Nat.le_of_ble_eq_true rfl) (recv_ok rfl (Nat.le_of_ble_eq_true rfl)) rfl (e_sets hm1.1 hw (by omega)) rfl (fun F2 G2 p2 => ?_)
  have p3 := MPost.p2 p2 hm1.2 rfl
  refine lt_eq lk_19 rfl ?_
  exact hq _ F2 G2 _ _ (by omega) (MP2.c p3 p1.1) p3.1 hw
theorem lc_20 (hE : E.2.2 = orcL) (hq : NX E d i x N) (h : CInv F G b o) (hm : MI2 F G o) (hw : WF o) (hi : i + 7 ≤ E.1) (hN : E.1 ≤ 3584) (hd : 200 ≤ d) : LT E d 854 [some (vr 0 0), some (vr 1 0), some (vr 40 0), some (vr 81 0), some (vi (nI i)), none, none] [] x F G b N := by
  refine lt_run lk_20 5 rfl ?_
  refine lt_sc lk_20 rfl (nI_add i 1) (by omega) hN ?_
  refine lt_call 2 lk_20 rfl (by omega) (Nat.le_of_ble_eq_true rfl) rfl (Nat.le_of_ble_eq_true rfl) (Nat.le_of_ble_eq_true rfl) (recv_ok rfl (Nat.le_of_ble_eq_true rfl)) rfl (a_ask h hw (by omega)) rfl (fun F1 G1 p1 => ?_)
  have hm1 := CPost.m p1 hm
  refine lt_run lk_20 5 rfl ?_
  refine lt_sc lk_20 rfl (nI_add i 1) (by omega) hN ?_
  refine lt_call 2 lk_20 rfl (by omega) (Nat.le_of_ble_eq_true rfl) rfl (Nat.le_of_ble_eq_true rfl) (Nat.le_of_ble_eq_true rfl) (recv_ok rfl (Nat.le_of_ble_eq_true rfl)) rfl (e_ask hm1.1 hw (by omega)) rfl (fun F2 G2 p2 => ?_)
  have p3 := MPost.p2 p2 hm1.2 rfl
  refine lt_eq lk_20 rfl ?_
  exact hq _ F2 G2 _ _ (by omega) (MP2.c p3 p1.1) p3.1 hw
theorem lc_21 (hE : E.2.2 = orcL) (hq : NX E d i x N) (h : CInv F G b o) (hm : MI2 F G o) (hw : WF o) (hi : i + 7 ≤ E.1) (hN : E.1 ≤ 3584) (hd : 200 ≤ d) : LT E d 879 [some (vr 0 0), some (vr 1 0), some (vr 40 0), some (vr 81 0), some (vi (nI i)), none, none] [] x F G b N := by
  refine lt_run lk_21 5 rfl ?_
  refine lt_sc lk_21 rfl (nI_add i 1) (by omega) hN ?_
  refine lt_run lk_21 4 rfl ?_
  refine lt_sc lk_21 rfl (nI_add i 2) (by omega) hN ?_
  refine lt_run lk_21 4 rfl ?_
  refine lt_sc lk_21 rfl (nI_add i 3) (by omega) hN ?_
  refine lt_call 4 lk_21 rfl (by omega) (Nat.le_of_ble_eq_true rfl) rfl (Nat.le_of_ble_eq_true rfl) (Nat.le_of_ble_eq_true rfl) (recv_ok rfl (Nat.le_of_ble_eq_true rfl)) rfl (a_meet h hw (by omega)) rfl (fun F1 G1 p1 => ?_)
  have hm1 := CPost.m p1 hm
  refine lt_run lk_21 5 rfl ?_
  refine lt_sc lk_21 rfl (nI_add i 1) (by omega) hN ?_
  refine lt_run lk_21 4 rfl ?_
  refine lt_sc lk_21 rfl (nI_add i 2) (by omega) hN ?_
  refine lt_run lk_21 4 rfl ?_
  refine lt_sc lk_21 rfl (nI_add i 3) (by omega) hN ?_
  refine lt_call 4 lk_21 rfl (by omega) (Nat.le_of_ble_eq_true rfl) rfl (Nat.le_of_ble_eq_true rfl) (Nat.le_of_ble_eq_true rfl) (recv_ok rfl (Nat.le_of_ble_eq_true rfl)) rfl (e_meet hm1.1 hw (by omega)) rfl (fun F2 G2 p2 => ?_)
  have p3 := MPost.p2 p2 hm1.2 rfl
  refine lt_eq lk_21 rfl ?_
  exact hq _ F2 G2 _ _ (by omega) (MP2.c p3 p1.1) p3.1 hw
theorem lc_22 (hE : E.2.2 = orcL) (hq : NX E d i x N) (h : CInv F G b o) (hm : MI2 F G o) (hw : WF o) (hi : i + 7 ≤ E.1) (hN : E.1 ≤ 3584) (hd : 200 ≤ d) : LT E d 928 [some (vr 0 0), some (vr 1 0), some (vr 40 0), some (vr 81 0), some (vi (nI i)), none, none] [] x F G b N := by
  refine lt_run lk_22 1 rfl ?_
  refine lt_call 1 lk_22 rfl (by omega) (Nat.le_of_ble_eq_true rfl) rfl (Nat.le_of_ble_eq_true rfl) (Nat.le_of_ble_eq_true rfl) (recv_ok rfl (Nat.le_of_ble_eq_true rfl)) rfl (a_engaged h hw (by omega)) rfl (fun F1 G1 p1 => ?_)
  have hm1 := CPost.m p1 hm
  refine lt_run lk_22 1 rfl ?_
  refine lt_call 1 lk_22 rfl (by omega) (Nat.le_of_ble_eq_true rfl) rfl (Nat.le_of_ble_eq_true rfl) (Nat.le_of_ble_eq_true rfl) (recv_ok rfl (Nat.le_of_ble_eq_true rfl)) rfl (e_engaged hm1.1 hw (by omega)) rfl (fun F2 G2 p2 => ?_)
  have p3 := MPost.p2 p2 hm1.2 rfl
  refine lt_eq lk_22 rfl ?_
  exact hq _ F2 G2 _ _ (by omega) (MP2.c p3 p1.1) p3.1 hw
theorem lc_23 (hE : E.2.2 = orcL) (hq : NX E d i x N) (h : CInv F G b o) (hm : MI2 F G o) (hw : WF o) (hi : i + 7 ≤ E.1) (hN : E.1 ≤ 3584) (hd : 200 ≤ d) : LT E d 941 [some (vr 0 0), some (vr 1 0), some (vr 40 0), some (vr 81 0), some (vi (nI i)), none, none] [] x F G b N := by
  refine lt_run lk_23 5 rfl ?_
  refine lt_sc lk_23 rfl (nI_add i 1) (by omega) hN ?_
  refine lt_call 2 lk_23 rfl (by omega) (Nat.le_of_ble_eq_true rfl) rfl (Nat.le_of_ble_eq_true rfl) (Nat.le_of_ble_eq_true rfl) (recv_ok rfl (Nat.le_of_ble_eq_true rfl)) rfl (a_pairs h hw (by omega)) rfl (fun F1 G1 p1 => ?_)
  have hm1 := CPost.m p1 hm
  refine lt_run lk_23 5 rfl ?_
  refine lt_sc lk_23 rfl (nI_add i 1) (by omega) hN ?_
  refine lt_call 2 lk_23 rfl (by omega) (Nat.le_of_ble_eq_true rfl) rfl (Nat.le_of_ble_eq_true rfl) (Nat.le_of_ble_eq_true rfl) (recv_ok rfl (Nat.le_of_ble_eq_true rfl)) rfl (e_pairs hm1.1 hw (by omega)) rfl (fun F2 G2 p2 => ?_)
  have p3 := MPost.p2 p2 hm1.2 rfl
  refine lt_eq lk_23 rfl ?_
  exact hq _ F2 G2 _ _ (by omega) (MP2.c p3 p1.1) p3.1 hw
theorem lc_24 (hE : E.2.2 = orcL) (hq : NX E d i x N) (h : CInv F G b o) (hm : MI2 F G o) (hw : WF o) (hi : i + 7 ≤ E.1) (hN : E.1 ≤ 3584) (hd : 200 ≤ d) : LT E d 966 [some (vr 0 0), some (vr 1 0), some (vr 40 0), some (vr 81 0), some (vi (nI i)), none, none] [] x F G b N := by
  refine lt_run lk_24 1 rfl ?_
  refine lt_call 1 lk_24 rfl (by omega) (Nat.le_of_ble_eq_true rfl) rfl (Nat.le_of_ble_eq_true rfl) (Nat.le_of_ble_eq_true rfl) (recv_ok rfl (Nat.le_of_ble_eq_true rfl)) rfl (a_tinkers h hw (by omega)) rfl (fun F1 G1 p1 => ?_)
  have hm1 := CPost.m p1 hm
  refine lt_run lk_24 1 rfl ?_
  refine lt_call 1 lk_24 rfl (by omega) (Nat.le_of_ble_eq_true rfl) rfl (Nat.le_of_ble_eq_true rfl) (Nat.le_of_ble_eq_true rfl) (recv_ok rfl (Nat.le_of_ble_eq_true rfl)) rfl (e_tinkers hm1.1 hw (by omega)) rfl (fun F2 G2 p2 => ?_)
  have p3 := MPost.p2 p2 hm1.2 rfl
  refine lt_eq lk_24 rfl ?_
  exact hq _ F2 G2 _ _ (by omega) (MP2.c p3 p1.1) p3.1 hw
theorem lc_26 (hE : E.2.2 = orcL) (hq : NX E d i x N) (h : CInv F G b o) (hm : MI2 F G o) (hw : WF o) (hi : i + 7 ≤ E.1) (hN : E.1 ≤ 3584) (hd : 200 ≤ d) : LT E d 1071 [some (vr 0 0), some (vr 1 0), some (vr 40 0), some (vr 81 0), some (vi (nI i)), none, none] [] x F G b N := by
  refine lt_run lk_26 5 rfl ?_
  refine lt_sc lk_26 rfl (nI_add i 1) (by omega) hN ?_
  refine lt_run lk_26 4 rfl ?_
  refine lt_sc lk_26 rfl (nI_add i 2) (by omega) hN ?_
  refine lt_run lk_26 4 rfl ?_
  refine lt_sc lk_26 rfl (nI_add i 3) (by omega) hN ?_
  refine lt_call 4 lk_26 rfl (by omega) (Nat.le_of_ble_eq_true rfl) rfl (Nat.le_of_ble_eq_true rfl) (Nat.le_of_ble_eq_true rfl) (recv_ok rfl (Nat.le_of_ble_eq_true rfl)) rfl (a_years h hw (by omega)) rfl (fun F1 G1 p1 => ?_)
  have hm1 := CPost.m p1 hm
  refine lt_run lk_26 5 rfl ?_
  refine lt_sc lk_26 rfl (nI_add i 1) (by omega) hN ?_
  refine lt_run lk_26 4 rfl ?_
  refine lt_sc lk_26 rfl (nI_add i 2) (by omega) hN ?_
  refine lt_run lk_26 4 rfl ?_
  refine lt_sc lk_26 rfl (nI_add i 3) (by omega) hN ?_
  refine lt_call 4 lk_26 rfl (by omega) (Nat.le_of_ble_eq_true rfl) rfl (Nat.le_of_ble_eq_true rfl) (Nat.le_of_ble_eq_true rfl) (recv_ok rfl (Nat.le_of_ble_eq_true rfl)) rfl (e_years hm1.1 hw (by omega)) rfl (fun F2 G2 p2 => ?_)
  have p3 := MPost.p2 p2 hm1.2 rfl
  refine lt_eq lk_26 rfl ?_
  exact hq _ F2 G2 _ _ (by omega) (MP2.c p3 p1.1) p3.1 hw
theorem lc_28 (hE : E.2.2 = orcL) (hq : NX E d i x N) (h : CInv F G b o) (hm : MI2 F G o) (hw : WF o) (hi : i + 7 ≤ E.1) (hN : E.1 ≤ 3584) (hd : 200 ≤ d) : LT E d 1173 [some (vr 0 0), some (vr 1 0), some (vr 40 0), some (vr 81 0), some (vi (nI i)), none, none] [] x F G b N := by
  refine lt_run lk_28 5 rfl ?_
  refine lt_sc lk_28 rfl (nI_add i 1) (by omega) hN ?_
  refine lt_call 2 lk_28 rfl (by omega) (Nat.le_of_ble_eq_true rfl) rfl (Nat.le_of_ble_eq_true rfl) (Nat.le_of_ble_eq_true rfl) (recv_ok rfl (Nat.le_of_ble_eq_true rfl)) rfl (a_count h hw (by omega)) rfl (fun F1 G1 p1 => ?_)
  have hm1 := CPost.m p1 hm
  refine lt_run lk_28 5 rfl ?_
  refine lt_sc lk_28 rfl (nI_add i 1) (by omega) hN ?_
  refine lt_call 2 lk_28 rfl (by omega) (Nat.le_of_ble_eq_true rfl) rfl (Nat.le_of_ble_eq_true rfl) (Nat.le_of_ble_eq_true rfl) (recv_ok rfl (Nat.le_of_ble_eq_true rfl)) rfl (e_count hm1.1 hw (by omega)) rfl (fun F2 G2 p2 => ?_)
  have p3 := MPost.p2 p2 hm1.2 rfl
  refine lt_eq lk_28 rfl ?_
  exact hq _ F2 G2 _ _ (by omega) (MP2.c p3 p1.1) p3.1 hw
theorem lc_27 (hE : E.2.2 = orcL) (hq : NX E d i x N) (h : CInv F G b o) (hm : MI2 F G o) (hw : WF o) (hi : i + 7 ≤ E.1) (hN : E.1 ≤ 3584) (hd : 200 ≤ d) : LT E d 1120 [some (vr 0 0), some (vr 1 0), some (vr 40 0), some (vr 81 0), some (vi (nI i)), none, none] [] x F G b N := by
  refine lt_run lk_27 5 rfl ?_
  refine lt_sc lk_27 rfl (nI_add i 1) (by omega) hN ?_
  refine lt_run lk_27 4 rfl ?_
  refine lt_sc lk_27 rfl (nI_add i 2) (by omega) hN ?_
  refine lt_if0 lk_27 rfl (fun hz => ?_) (fun hz => ?_)
  · refine lt_run lk_27 1 rfl ?_
    refine lt_call 3 lk_27 rfl (by omega) (Nat.le_of_ble_eq_true rfl) rfl (Nat.le_of_ble_eq_true rfl) (Nat.le_of_ble_eq_true rfl) (recv_ok rfl (Nat.le_of_ble_eq_true rfl)) rfl (a_mark h hw (by omega)) rfl (fun F1 G1 p1 => ?_)
    have hm1 := CPost.m p1 hm
    refine lt_run lk_27 5 rfl ?_
    refine lt_sc lk_27 rfl (nI_add i 1) (by omega) hN ?_
    refine lt_run lk_27 4 rfl ?_
    refine lt_sc lk_27 rfl (nI_add i 2) (by omega) hN ?_
    refine lt_if0 lk_27 rfl (fun hz2 => ?_) (fun hz2 => absurd hz hz2)
    refine lt_run lk_27 1 rfl ?_
    refine lt_call 3 lk_27 rfl (by omega) (Nat.le_of_ble_eq_true rfl) rfl (Nat.le_of_ble_eq_true rfl) (Nat.le_of_ble_eq_true rfl) (recv_ok rfl (Nat.le_of_ble_eq_true rfl)) rfl (e_mark hm1.1 hw (by omega) (Or.inl rfl)) rfl (fun F2 G2 p2 => ?_)
    have p3 := MPost.p2 p2 hm1.2 ol_mark
    refine lt_eq lk_27 rfl ?_
    exact hq _ F2 G2 _ _ (by omega) (MP2.c p3 p1.1) p3.1 (w_mark hw)
  · refine lt_run lk_27 2 rfl ?_
    refine lt_call 3 lk_27 rfl (by omega) (Nat.le_of_ble_eq_true rfl) rfl (Nat.le_of_ble_eq_true rfl) (Nat.le_of_ble_eq_true rfl) (recv_ok rfl (Nat.le_of_ble_eq_true rfl)) rfl (a_mark h hw (by omega)) rfl (fun F1 G1 p1 => ?_)
    have hm1 := CPost.m p1 hm
    refine lt_run lk_27 5 rfl ?_
    refine lt_sc lk_27 rfl (nI_add i 1) (by omega) hN ?_
    refine lt_run lk_27 4 rfl ?_
    refine lt_sc lk_27 rfl (nI_add i 2) (by omega) hN ?_
    refine lt_if0 lk_27 rfl (fun hz2 => absurd hz2 hz) (fun hz2 => ?_)
    refine lt_run lk_27 2 rfl ?_
    refine lt_call 3 lk_27 rfl (by omega) (Nat.le_of_ble_eq_true rfl) rfl (Nat.le_of_ble_eq_true rfl) (Nat.le_of_ble_eq_true rfl) (recv_ok rfl (Nat.le_of_ble_eq_true rfl)) rfl (e_mark hm1.1 hw (by omega) (Or.inr rfl)) rfl (fun F2 G2 p2 => ?_)
    have p3 := MPost.p2 p2 hm1.2 ol_mark
    refine lt_eq lk_27 rfl ?_
    exact hq _ F2 G2 _ _ (by omega) (MP2.c p3 p1.1) p3.1 (w_mark hw)
theorem lc_25 (hE : E.2.2 = orcL) (hq : NX E d i x N) (h : CInv F G b o) (hm : MI2 F G o) (hw : WF o) (hi : i + 7 ≤ E.1) (hN : E.1 ≤ 3584) (hd : 200 ≤ d) : LT E d 979 [some (vr 0 0), some (vr 1 0), some (vr 40 0), some (vr 81 0), some (vi (nI i)), none, none] [] x F G b N := by
  refine lt_run lk_25 5 rfl ?_
  refine lt_sc lk_25 rfl (nI_add i 1) (by omega) hN ?_
  refine lt_run lk_25 4 rfl ?_
  refine lt_sc lk_25 rfl (nI_add i 2) (by omega) hN ?_
  refine lt_run lk_25 4 rfl ?_
  refine lt_sc lk_25 rfl (nI_add i 3) (by omega) hN ?_
  refine lt_run lk_25 4 rfl ?_
  refine lt_sc lk_25 rfl (nI_add i 4) (by omega) hN ?_
  refine lt_run lk_25 1 rfl ?_
  refine lt_orc hE lk_25 rfl (by omega) ?_
  generalize hG1 : (if (rsA (E.2.1 (i + 1)) (E.2.1 (i + 2)) (E.2.1 (i + 3)) (E.2.1 (i + 4))).2 = 0 then uG G 81 0 0 (rsA (E.2.1 (i + 1)) (E.2.1 (i + 2)) (E.2.1 (i + 3)) (E.2.1 (i + 4))).1.toInt64 else G) = G1
  have hGk : ∀ k, k ≠ 81 → G1 k = G k := by
    intro k hk
    rw [← hG1]
    split
    · funext n j
      simp only [uG]
      rw [if_neg (fun e => hk e.1)]
    · rfl
  have h1 : CInv F G1 b o := h.fm (fun _ _ => rfl) (fun k hk => hGk k (by omega))
  have hm1 : MI2 F G1 o := hm.g hGk
  refine lt_run lk_25 6 rfl ?_
  refine lt_sc lk_25 rfl (nI_add i 1) (by omega) hN ?_
  refine lt_run lk_25 4 rfl ?_
  refine lt_sc lk_25 rfl (nI_add i 2) (by omega) hN ?_
  refine lt_run lk_25 4 rfl ?_
  refine lt_sc lk_25 rfl (nI_add i 3) (by omega) hN ?_
  refine lt_run lk_25 4 rfl ?_
  refine lt_sc lk_25 rfl (nI_add i 4) (by omega) hN ?_
  refine lt_call 5 lk_25 rfl (by omega) (Nat.le_of_ble_eq_true rfl) rfl (Nat.le_of_ble_eq_true rfl) (Nat.le_of_ble_eq_true rfl) (recv_ok rfl (Nat.le_of_ble_eq_true rfl)) rfl (m_rests (by omega)) rfl (fun F2 G2 p2 => ?_)
  obtain ⟨rfl, p4, p5, p6⟩ := p2
  have p7 : MPost o F G2 F2 G2 := MPost.q hm1.1 hw (p4.mo (fun k e => by
      simp only [dMk, Bool.or_eq_false_iff, decide_eq_false_iff_not] at e
      simp only [d40, decide_eq_false_iff_not]
      exact e.1.1.1.1.1.1)) (p5 1 (by decide)) (p5 49 (by decide)) (p4 74 rfl) (fun i _ => by rw [p4 70 rfl]) (fun _ _ => rfl)
  have p3 := MPost.p2 p7 hm1.2 rfl
  have h2 : CInv F2 G2 b o := MP2.c p3 h1
  refine lt_run lk_25 2 rfl ?_
  refine lt_callT 1 lk_25 rfl (by omega) (Nat.le_of_ble_eq_true rfl) rfl (Nat.le_of_ble_eq_true rfl) (Nat.le_of_ble_eq_true rfl) (recv_ok rfl (Nat.le_of_ble_eq_true rfl)) rfl m_thrown rfl ?_
  rw [p6]
  refine lt_run lk_25 1 rfl ?_
  refine lt_eq lk_25 rfl ?_
  refine lt_run lk_25 1 rfl ?_
  have fin : LT E d 1068 [some (vr 0 0), some (vr 1 0), some (vr 40 0), some (vr 81 0), some (vi (nI i)), some (vi (rsA (E.2.1 (i + 1)) (E.2.1 (i + 2)) (E.2.1 (i + 3)) (E.2.1 (i + 4))).2), some (vi (rsA (E.2.1 (i + 1)) (E.2.1 (i + 2)) (E.2.1 (i + 3)) (E.2.1 (i + 4))).1)] [] (x + 1) F2 G2 b N := by
    refine lt_run lk_25 1 rfl ?_
    refine lt_le (L1 := [some (vr 0 0), some (vr 1 0), some (vr 40 0), some (vr 81 0), some (vi (nI i)), none, none]) ⟨Or.inr rfl, Or.inr rfl, Or.inr rfl, Or.inr rfl, Or.inr rfl, Or.inl rfl, Or.inl rfl, trivial⟩ ?_
    exact hq _ F2 G2 b o (by omega) h2 p3.1 hw
  refine lt_if1 lk_25 rfl (fun _ => fin) (fun hz => ?_)
  refine lt_run lk_25 2 rfl ?_
  refine lt_up (fun t ht => t_la (N := 1) (j := 0) (subT_at lk_25 rfl) (Nat.le_of_ble_eq_true rfl) ⟨⟨rfl, rfl⟩, rfl, rfl⟩ (by decide) rfl ht) ?_
  have e9 : G2 81 0 0 = (rsA (E.2.1 (i + 1)) (E.2.1 (i + 2)) (E.2.1 (i + 3)) (E.2.1 (i + 4))).1.toInt64 := by
    rw [← hG1, if_pos hz]
    simp [uG]
  rw [e9]
  refine lt_run lk_25 3 rfl ?_
  rw [cmp0]
  exact lt_if0 lk_25 rfl (fun _ => fin) (fun hne => absurd rfl hne)
end LC
