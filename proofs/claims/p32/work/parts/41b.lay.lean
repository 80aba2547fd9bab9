section SLB
/-- an object: class, kinds of its fields (0 int, 1 long, 2 boolean, 3 always this object, 4 an object); an array: kind, length, and (of objects) which -/
abbrev LY : Type := (Nat × List (Nat × Nat)) ⊕ (Nat × Nat × Nat × Nat)
def ky_32 : List (Nat × Nat) := [(3, 33), (3, 162), (3, 166), (0, 0), (0, 0), (0, 0), (3, 167), (3, 170), (3, 173), (3, 177), (3, 193), (3, 208), (3, 222), (3, 238), (3, 252), (3, 274), (3, 275), (3, 276), (0, 0)]
def ky_167 : List (Nat × Nat) := [(0, 0), (3, 166), (3, 168), (3, 169), (4, 0), (0, 0), (0, 0), (0, 0), (0, 0), (0, 0), (0, 0), (0, 0)]
def ky_170 : List (Nat × Nat) := [(0, 0), (3, 166), (3, 171), (3, 172), (4, 0), (0, 0), (0, 0), (0, 0), (0, 0), (2, 0), (0, 0), (0, 0), (0, 0)]
def ky_173 : List (Nat × Nat) := [(0, 0), (3, 174), (3, 175), (2, 0), (3, 176), (0, 0)]
def ky_177 : List (Nat × Nat) := [(3, 178), (3, 179), (3, 185), (3, 186), (3, 187), (3, 188), (3, 189), (0, 0), (3, 190), (3, 191), (3, 192)]
def ky_179 : List (Nat × Nat) := [(3, 180), (3, 181), (3, 182), (3, 183), (3, 184), (0, 0), (0, 0), (0, 0)]
def ky_193 : List (Nat × Nat) := [(3, 194), (0, 0), (3, 200), (0, 0), (3, 201), (3, 202), (3, 203), (3, 204), (0, 0), (3, 205), (3, 206), (3, 207), (0, 0)]
def ky_194 : List (Nat × Nat) := [(3, 195), (3, 196), (3, 197), (3, 198), (3, 199), (0, 0), (0, 0), (0, 0)]
def ky_208 : List (Nat × Nat) := [(3, 193), (3, 209), (3, 210), (0, 0), (3, 211), (3, 212), (3, 213), (3, 214), (3, 215), (3, 216), (3, 217), (0, 0), (3, 218), (3, 219), (3, 220), (3, 221), (0, 0)]
def ky_222 : List (Nat × Nat) := [(3, 223), (3, 229), (3, 230), (3, 231), (3, 232), (3, 233), (0, 0), (3, 234), (3, 235), (0, 0), (3, 236), (3, 237)]
def ky_223 : List (Nat × Nat) := [(3, 224), (3, 225), (3, 226), (3, 227), (3, 228), (0, 0), (0, 0), (0, 0)]
def ky_238 : List (Nat × Nat) := [(3, 239), (3, 240), (3, 241), (0, 0), (3, 242), (3, 243), (3, 244), (3, 245), (3, 246), (3, 247), (0, 0), (3, 248), (0, 0), (3, 249), (0, 0), (3, 250), (3, 251)]
def ky_252 : List (Nat × Nat) := [(3, 253), (3, 254), (3, 255), (3, 272), (3, 273)]
def ky_277 : List (Nat × Nat) := [(0, 0), (0, 0), (1, 0), (3, 278), (0, 0), (3, 279), (0, 0), (0, 0), (0, 0), (3, 280), (3, 281), (3, 282), (3, 283), (3, 284), (3, 285), (3, 286), (0, 0), (0, 0), (0, 0), (3, 287), (0, 0), (2, 0), (0, 0), (0, 0), (0, 0), (1, 0), (2, 0), (3, 288), (3, 289), (0, 0), (0, 0), (0, 0), (3, 290), (3, 291), (3, 292), (3, 293), (3, 294), (3, 295), (3, 296), (3, 297), (3, 298), (3, 299), (3, 300), (3, 301), (3, 302), (3, 303), (3, 304), (3, 305), (0, 0), (2, 0), (1, 0), (1, 0), (3, 306), (3, 307), (3, 308), (3, 309), (3, 310), (0, 0), (3, 311), (0, 0), (3, 312), (3, 313), (0, 0), (3, 314), (3, 315), (0, 0), (3, 316), (3, 317), (3, 318), (0, 0), (0, 0), (3, 319), (3, 320), (3, 321), (3, 322), (0, 0), (1, 0), (1, 0), (2, 0), (1, 0), (1, 0), (2, 0), (3, 323), (3, 324), (3, 325), (0, 0), (3, 326), (3, 327), (3, 328), (0, 0), (3, 329), (0, 0), (3, 330), (3, 331), (0, 0), (3, 332), (3, 333), (3, 334), (3, 335), (0, 0), (3, 336), (3, 337), (3, 338), (3, 339), (3, 340), (3, 341), (3, 342), (3, 343), (1, 0), (1, 0), (1, 0), (1, 0), (1, 0), (1, 0), (3, 344), (3, 345), (0, 0), (3, 346), (3, 347), (0, 0), (3, 348), (0, 0), (3, 349), (3, 350), (3, 351), (0, 0), (3, 352), (0, 0), (3, 353), (3, 354), (3, 355), (0, 0), (3, 356), (3, 357), (3, 358)]
def lyL : List LY := [.inl (14, ky_32),
  .inr (4, 32, 34, 4),
  .inl (9, [(3, 35), (3, 36), (3, 37), (0, 0), (0, 0)]),
  .inr (0, 2048, 0, 0),
  .inr (0, 2048, 0, 0),
  .inr (0, 2048, 0, 0),
  .inl (9, [(3, 39), (3, 40), (3, 41), (0, 0), (0, 0)]),
  .inr (0, 2048, 0, 0),
  .inr (0, 2048, 0, 0),
  .inr (0, 2048, 0, 0),
  .inl (9, [(3, 43), (3, 44), (3, 45), (0, 0), (0, 0)]),
  .inr (0, 2048, 0, 0),
  .inr (0, 2048, 0, 0),
  .inr (0, 2048, 0, 0),
  .inl (9, [(3, 47), (3, 48), (3, 49), (0, 0), (0, 0)]),
  .inr (0, 2048, 0, 0),
  .inr (0, 2048, 0, 0),
  .inr (0, 2048, 0, 0),
  .inl (9, [(3, 51), (3, 52), (3, 53), (0, 0), (0, 0)]),
  .inr (0, 2048, 0, 0),
  .inr (0, 2048, 0, 0),
  .inr (0, 2048, 0, 0),
  .inl (9, [(3, 55), (3, 56), (3, 57), (0, 0), (0, 0)]),
  .inr (0, 2048, 0, 0),
  .inr (0, 2048, 0, 0),
  .inr (0, 2048, 0, 0),
  .inl (9, [(3, 59), (3, 60), (3, 61), (0, 0), (0, 0)]),
  .inr (0, 2048, 0, 0),
  .inr (0, 2048, 0, 0),
  .inr (0, 2048, 0, 0),
  .inl (9, [(3, 63), (3, 64), (3, 65), (0, 0), (0, 0)]),
  .inr (0, 2048, 0, 0),
  .inr (0, 2048, 0, 0),
  .inr (0, 2048, 0, 0),
  .inl (9, [(3, 67), (3, 68), (3, 69), (0, 0), (0, 0)]),
  .inr (0, 2048, 0, 0),
  .inr (0, 2048, 0, 0),
  .inr (0, 2048, 0, 0),
  .inl (9, [(3, 71), (3, 72), (3, 73), (0, 0), (0, 0)]),
  .inr (0, 2048, 0, 0),
  .inr (0, 2048, 0, 0),
  .inr (0, 2048, 0, 0),
  .inl (9, [(3, 75), (3, 76), (3, 77), (0, 0), (0, 0)]),
  .inr (0, 2048, 0, 0),
  .inr (0, 2048, 0, 0),
  .inr (0, 2048, 0, 0),
  .inl (9, [(3, 79), (3, 80), (3, 81), (0, 0), (0, 0)]),
  .inr (0, 2048, 0, 0),
  .inr (0, 2048, 0, 0),
  .inr (0, 2048, 0, 0),
  .inl (9, [(3, 83), (3, 84), (3, 85), (0, 0), (0, 0)]),
  .inr (0, 2048, 0, 0),
  .inr (0, 2048, 0, 0),
  .inr (0, 2048, 0, 0),
  .inl (9, [(3, 87), (3, 88), (3, 89), (0, 0), (0, 0)]),
  .inr (0, 2048, 0, 0),
  .inr (0, 2048, 0, 0),
  .inr (0, 2048, 0, 0),
  .inl (9, [(3, 91), (3, 92), (3, 93), (0, 0), (0, 0)]),
  .inr (0, 2048, 0, 0),
  .inr (0, 2048, 0, 0),
  .inr (0, 2048, 0, 0),
  .inl (9, [(3, 95), (3, 96), (3, 97), (0, 0), (0, 0)]),
  .inr (0, 2048, 0, 0),
  .inr (0, 2048, 0, 0),
  .inr (0, 2048, 0, 0),
  .inl (9, [(3, 99), (3, 100), (3, 101), (0, 0), (0, 0)]),
  .inr (0, 2048, 0, 0),
  .inr (0, 2048, 0, 0),
  .inr (0, 2048, 0, 0),
  .inl (9, [(3, 103), (3, 104), (3, 105), (0, 0), (0, 0)]),
  .inr (0, 2048, 0, 0),
  .inr (0, 2048, 0, 0),
  .inr (0, 2048, 0, 0),
  .inl (9, [(3, 107), (3, 108), (3, 109), (0, 0), (0, 0)]),
  .inr (0, 2048, 0, 0),
  .inr (0, 2048, 0, 0),
  .inr (0, 2048, 0, 0),
  .inl (9, [(3, 111), (3, 112), (3, 113), (0, 0), (0, 0)]),
  .inr (0, 2048, 0, 0),
  .inr (0, 2048, 0, 0),
  .inr (0, 2048, 0, 0),
  .inl (9, [(3, 115), (3, 116), (3, 117), (0, 0), (0, 0)]),
  .inr (0, 2048, 0, 0),
  .inr (0, 2048, 0, 0),
  .inr (0, 2048, 0, 0),
  .inl (9, [(3, 119), (3, 120), (3, 121), (0, 0), (0, 0)]),
  .inr (0, 2048, 0, 0),
  .inr (0, 2048, 0, 0),
  .inr (0, 2048, 0, 0),
  .inl (9, [(3, 123), (3, 124), (3, 125), (0, 0), (0, 0)]),
  .inr (0, 2048, 0, 0),
  .inr (0, 2048, 0, 0),
  .inr (0, 2048, 0, 0),
  .inl (9, [(3, 127), (3, 128), (3, 129), (0, 0), (0, 0)]),
  .inr (0, 2048, 0, 0),
  .inr (0, 2048, 0, 0),
  .inr (0, 2048, 0, 0),
  .inl (9, [(3, 131), (3, 132), (3, 133), (0, 0), (0, 0)]),
  .inr (0, 2048, 0, 0),
  .inr (0, 2048, 0, 0),
  .inr (0, 2048, 0, 0),
  .inl (9, [(3, 135), (3, 136), (3, 137), (0, 0), (0, 0)]),
  .inr (0, 2048, 0, 0),
  .inr (0, 2048, 0, 0),
  .inr (0, 2048, 0, 0),
  .inl (9, [(3, 139), (3, 140), (3, 141), (0, 0), (0, 0)]),
  .inr (0, 2048, 0, 0),
  .inr (0, 2048, 0, 0),
  .inr (0, 2048, 0, 0),
  .inl (9, [(3, 143), (3, 144), (3, 145), (0, 0), (0, 0)]),
  .inr (0, 2048, 0, 0),
  .inr (0, 2048, 0, 0),
  .inr (0, 2048, 0, 0),
  .inl (9, [(3, 147), (3, 148), (3, 149), (0, 0), (0, 0)]),
  .inr (0, 2048, 0, 0),
  .inr (0, 2048, 0, 0),
  .inr (0, 2048, 0, 0),
  .inl (9, [(3, 151), (3, 152), (3, 153), (0, 0), (0, 0)]),
  .inr (0, 2048, 0, 0),
  .inr (0, 2048, 0, 0),
  .inr (0, 2048, 0, 0),
  .inl (9, [(3, 155), (3, 156), (3, 157), (0, 0), (0, 0)]),
  .inr (0, 2048, 0, 0),
  .inr (0, 2048, 0, 0),
  .inr (0, 2048, 0, 0),
  .inl (9, [(3, 159), (3, 160), (3, 161), (0, 0), (0, 0)]),
  .inr (0, 2048, 0, 0),
  .inr (0, 2048, 0, 0),
  .inr (0, 2048, 0, 0),
  .inl (9, [(3, 163), (3, 164), (3, 165), (0, 0), (0, 0)]),
  .inr (0, 2048, 0, 0),
  .inr (0, 2048, 0, 0),
  .inr (0, 2048, 0, 0),
  .inr (2, 65536, 0, 0),
  .inl (12, ky_167),
  .inr (0, 64, 0, 0),
  .inr (0, 64, 0, 0),
  .inl (3, ky_170),
  .inr (1, 64, 0, 0),
  .inr (0, 64, 0, 0),
  .inl (13, ky_173),
  .inr (0, 64, 0, 0),
  .inr (0, 64, 0, 0),
  .inr (2, 80000, 0, 0),
  .inl (4, ky_177),
  .inr (0, 7, 0, 0),
  .inl (8, ky_179),
  .inr (0, 2048, 0, 0),
  .inr (0, 2048, 0, 0),
  .inr (0, 2048, 0, 0),
  .inr (0, 2048, 0, 0),
  .inr (0, 2048, 0, 0),
  .inr (0, 2048, 0, 0),
  .inr (0, 2048, 0, 0),
  .inr (0, 2048, 0, 0),
  .inr (0, 2048, 0, 0),
  .inr (0, 2048, 0, 0),
  .inr (0, 2048, 0, 0),
  .inr (0, 2048, 0, 0),
  .inr (0, 2048, 0, 0),
  .inl (11, ky_193),
  .inl (8, ky_194),
  .inr (0, 2048, 0, 0),
  .inr (0, 2048, 0, 0),
  .inr (0, 2048, 0, 0),
  .inr (0, 2048, 0, 0),
  .inr (0, 2048, 0, 0),
  .inr (1, 16384, 0, 0),
  .inr (1, 16384, 0, 0),
  .inr (0, 8192, 0, 0),
  .inr (0, 8192, 0, 0),
  .inr (0, 8192, 0, 0),
  .inr (0, 16384, 0, 0),
  .inr (0, 16384, 0, 0),
  .inr (0, 16384, 0, 0),
  .inl (7, ky_208),
  .inr (0, 16384, 0, 0),
  .inr (0, 16384, 0, 0),
  .inr (3, 16384, 0, 0),
  .inr (3, 16384, 0, 0),
  .inr (0, 8194, 0, 0),
  .inr (0, 32768, 0, 0),
  .inr (0, 8193, 0, 0),
  .inr (0, 8192, 0, 0),
  .inr (0, 2048, 0, 0),
  .inr (0, 513, 0, 0),
  .inr (1, 512, 0, 0),
  .inr (0, 512, 0, 0),
  .inr (1, 512, 0, 0),
  .inl (6, ky_222),
  .inl (8, ky_223),
  .inr (0, 256, 0, 0),
  .inr (0, 256, 0, 0),
  .inr (0, 256, 0, 0),
  .inr (0, 256, 0, 0),
  .inr (0, 256, 0, 0),
  .inr (0, 9, 0, 0),
  .inr (1, 512, 0, 0),
  .inr (0, 512, 0, 0),
  .inr (0, 512, 0, 0),
  .inr (0, 512, 0, 0),
  .inr (1, 512, 0, 0),
  .inr (1, 512, 0, 0),
  .inr (0, 2, 0, 0),
  .inr (0, 2, 0, 0),
  .inl (5, ky_238),
  .inr (1, 2048, 0, 0),
  .inr (0, 1024, 0, 0),
  .inr (0, 1024, 0, 0),
  .inr (0, 1024, 0, 0),
  .inr (0, 1024, 0, 0),
  .inr (0, 2050, 0, 0),
  .inr (1, 4129, 0, 0),
  .inr (0, 3084, 0, 0),
  .inr (0, 3084, 0, 0),
  .inr (0, 514, 0, 0),
  .inr (1, 512, 0, 0),
  .inr (3, 2048, 0, 0),
  .inr (0, 2048, 0, 0),
  .inl (10, ky_252),
  .inr (1, 32, 0, 0),
  .inr (1, 32, 0, 0),
  .inr (5, 16, 256, 1),
  .inr (0, 280, 0, 0),
  .inr (0, 280, 0, 0),
  .inr (0, 280, 0, 0),
  .inr (0, 280, 0, 0),
  .inr (0, 280, 0, 0),
  .inr (0, 280, 0, 0),
  .inr (0, 280, 0, 0),
  .inr (0, 280, 0, 0),
  .inr (0, 280, 0, 0),
  .inr (0, 280, 0, 0),
  .inr (0, 280, 0, 0),
  .inr (0, 280, 0, 0),
  .inr (0, 280, 0, 0),
  .inr (0, 280, 0, 0),
  .inr (0, 280, 0, 0),
  .inr (0, 280, 0, 0),
  .inr (0, 16, 0, 0),
  .inr (0, 16, 0, 0),
  .inr (0, 4, 0, 0),
  .inr (0, 32, 0, 0),
  .inr (1, 32, 0, 0),
  .inl (15, ky_277),
  .inr (2, 65536, 0, 0),
  .inr (2, 131072, 0, 0),
  .inr (0, 33, 0, 0),
  .inr (0, 67584, 0, 0),
  .inr (0, 33, 0, 0),
  .inr (0, 67584, 0, 0),
  .inr (0, 67584, 0, 0),
  .inr (0, 7, 0, 0),
  .inr (0, 32, 0, 0),
  .inr (0, 60, 0, 0),
  .inr (1, 60, 0, 0),
  .inr (0, 60, 0, 0),
  .inr (1, 32, 0, 0),
  .inr (1, 32, 0, 0),
  .inr (1, 32, 0, 0),
  .inr (1, 32, 0, 0),
  .inr (1, 6000, 0, 0),
  .inr (0, 20, 0, 0),
  .inr (0, 20, 0, 0),
  .inr (1, 32, 0, 0),
  .inr (1, 32, 0, 0),
  .inr (1, 4200, 0, 0),
  .inr (1, 4200, 0, 0),
  .inr (1, 4200, 0, 0),
  .inr (1, 4200, 0, 0),
  .inr (0, 4200, 0, 0),
  .inr (0, 4200, 0, 0),
  .inr (0, 4200, 0, 0),
  .inr (0, 2048, 0, 0),
  .inr (0, 2048, 0, 0),
  .inr (0, 2048, 0, 0),
  .inr (0, 2048, 0, 0),
  .inr (0, 2049, 0, 0),
  .inr (0, 1026, 0, 0),
  .inr (1, 4200, 0, 0),
  .inr (1, 4200, 0, 0),
  .inr (0, 8400, 0, 0),
  .inr (0, 8400, 0, 0),
  .inr (0, 6300, 0, 0),
  .inr (1, 8193, 0, 0),
  .inr (1, 8193, 0, 0),
  .inr (0, 8193, 0, 0),
  .inr (1, 8193, 0, 0),
  .inr (1, 8193, 0, 0),
  .inr (3, 8193, 0, 0),
  .inr (0, 16385, 0, 0),
  .inr (0, 16385, 0, 0),
  .inr (0, 16385, 0, 0),
  .inr (0, 16385, 0, 0),
  .inr (0, 16385, 0, 0),
  .inr (3, 16385, 0, 0),
  .inr (0, 16386, 0, 0),
  .inr (0, 8193, 0, 0),
  .inr (0, 33000, 0, 0),
  .inr (0, 8193, 0, 0),
  .inr (0, 8193, 0, 0),
  .inr (1, 8193, 0, 0),
  .inr (0, 8193, 0, 0),
  .inr (0, 2, 0, 0),
  .inr (0, 2, 0, 0),
  .inr (0, 2, 0, 0),
  .inr (0, 2, 0, 0),
  .inr (3, 2, 0, 0),
  .inr (0, 4200, 0, 0),
  .inr (0, 2, 0, 0),
  .inr (0, 9, 0, 0),
  .inr (1, 5000, 0, 0),
  .inr (1, 5000, 0, 0),
  .inr (1, 1025, 0, 0),
  .inr (1, 1025, 0, 0),
  .inr (0, 1025, 0, 0),
  .inr (3, 1048576, 0, 0),
  .inr (0, 8200, 0, 0),
  .inr (0, 8200, 0, 0),
  .inr (0, 1025, 0, 0),
  .inr (0, 2100, 0, 0),
  .inr (0, 2100, 0, 0),
  .inr (0, 2100, 0, 0),
  .inr (3, 2048, 0, 0),
  .inr (0, 2050, 0, 0),
  .inr (0, 2050, 0, 0),
  .inr (1, 1, 0, 0)]
def lay (a : Nat) : Option LY := if a < 32 then none else lyL[a - 32]?
abbrev isS (s : Nat) : Prop := 34 ≤ s ∧ s ≤ 162 ∧ s % 4 = 2
theorem isS_e {s : Nat} (h : isS s) : ∃ i, i < 33 ∧ s = 34 + 4 * i := ⟨(s - 34) / 4, by have := h.1; have := h.2.1; omega, by have := h.1; have := h.2.2; omega⟩
theorem all_lt {n : Nat} {P : Nat → Bool} (h : (List.range n).all P = true) (i : Nat) (hi : i < n) : P i = true := List.all_eq_true.mp h i (List.mem_range.mpr hi)
theorem ly_S0 : ∀ i, i < 33 → lay (34 + 4 * i) = some (.inl (9, [(3, 34 + 4 * i + 1), (3, 34 + 4 * i + 2), (3, 34 + 4 * i + 3), (0, 0), (0, 0)])) := fun i hi => of_decide_eq_true (all_lt (n := 33) (P := fun i => decide (lay (34 + 4 * i) = some (.inl (9, [(3, 34 + 4 * i + 1), (3, 34 + 4 * i + 2), (3, 34 + 4 * i + 3), (0, 0), (0, 0)])))) (by decide +kernel) i hi)
theorem ly_A1 : ∀ i, i < 33 → lay (34 + 4 * i + 1) = some (.inr (0, 2048, 0, 0)) := fun i hi => of_decide_eq_true (all_lt (n := 33) (P := fun i => decide (lay (34 + 4 * i + 1) = some (.inr (0, 2048, 0, 0)))) (by decide +kernel) i hi)
theorem ly_A2 : ∀ i, i < 33 → lay (34 + 4 * i + 2) = some (.inr (0, 2048, 0, 0)) := fun i hi => of_decide_eq_true (all_lt (n := 33) (P := fun i => decide (lay (34 + 4 * i + 2) = some (.inr (0, 2048, 0, 0)))) (by decide +kernel) i hi)
theorem ly_A3 : ∀ i, i < 33 → lay (34 + 4 * i + 3) = some (.inr (0, 2048, 0, 0)) := fun i hi => of_decide_eq_true (all_lt (n := 33) (P := fun i => decide (lay (34 + 4 * i + 3) = some (.inr (0, 2048, 0, 0)))) (by decide +kernel) i hi)
theorem ly_S {s : Nat} (h : isS s) : lay s = some (.inl (9, [(3, s + 1), (3, s + 2), (3, s + 3), (0, 0), (0, 0)])) := by
  obtain ⟨i, h1, rfl⟩ := isS_e h; exact ly_S0 i h1
theorem ly_Sp {s : Nat} (h : isS s) : lay (s + 1) = some (.inr (0, 2048, 0, 0)) := by
  obtain ⟨i, h1, rfl⟩ := isS_e h; exact ly_A1 i h1
theorem ly_Sx {s : Nat} (h : isS s) : lay (s + 2) = some (.inr (0, 2048, 0, 0)) := by
  obtain ⟨i, h1, rfl⟩ := isS_e h; exact ly_A2 i h1
theorem ly_Sy {s : Nat} (h : isS s) : lay (s + 3) = some (.inr (0, 2048, 0, 0)) := by
  obtain ⟨i, h1, rfl⟩ := isS_e h; exact ly_A3 i h1
def gsz (g : Nat) : Nat := if g = 179 then 2048 else if g = 194 then 2048 else 256
abbrev isG (g : Nat) : Prop := g = 179 ∨ g = 194 ∨ g = 223
theorem ly_G {g : Nat} (h : isG g) : lay g = some (.inl (8, [(3, g + 1), (3, g + 2), (3, g + 3), (3, g + 4), (3, g + 5), (0, 0), (0, 0), (0, 0)])) := by
  rcases h with rfl | rfl | rfl <;> decide +kernel
theorem ly_Gi {g k : Nat} (h : isG g) (h1 : 1 ≤ k) (h2 : k ≤ 5) : lay (g + k) = some (.inr (0, gsz g, 0, 0)) := by
  rcases (show k = 1 ∨ k = 2 ∨ k = 3 ∨ k = 4 ∨ k = 5 by omega) with rfl | rfl | rfl | rfl | rfl <;> rcases h with rfl | rfl | rfl <;> decide +kernel
theorem ly_B0 : ∀ i, i < 16 → lay (256 + 1 * i) = some (.inr (0, 280, 0, 0)) := fun i hi => of_decide_eq_true (all_lt (n := 16) (P := fun i => decide (lay (256 + 1 * i) = some (.inr (0, 280, 0, 0)))) (by decide +kernel) i hi)
theorem ly_ok : lyL.all (fun L => match L with
  | .inl q => decide (q.2.length ≤ 256)
  | .inr _ => true) = true := by decide +kernel
theorem lay_mem {a : Nat} {L : LY} (h : lay a = some L) : L ∈ lyL ∧ ¬ a < 32 := by
  unfold lay at h
  by_cases q : a < 32
  · rw [if_pos q] at h; cases h
  · rw [if_neg q] at h; exact ⟨List.mem_of_getElem? h, q⟩
theorem lay_len {a : Nat} {q : Nat × List (Nat × Nat)} (h : lay a = some (.inl q)) : q.2.length ≤ 256 := by
  have h1 := List.all_eq_true.mp ly_ok _ (lay_mem h).1
  exact of_decide_eq_true h1
theorem lay_ge {a : Nat} {L : LY} (h : lay a = some L) : 32 ≤ a := Nat.not_lt.mp (lay_mem h).2
theorem ly_163 : lay 163 = some (.inr (0, 2048, 0, 0)) := by decide +kernel
theorem ly_164 : lay 164 = some (.inr (0, 2048, 0, 0)) := by decide +kernel
theorem ly_165 : lay 165 = some (.inr (0, 2048, 0, 0)) := by decide +kernel
theorem ly_166 : lay 166 = some (.inr (2, 65536, 0, 0)) := by decide +kernel
theorem ly_167 : lay 167 = some (.inl (12, ky_167)) := by decide +kernel
theorem ly_168 : lay 168 = some (.inr (0, 64, 0, 0)) := by decide +kernel
theorem ly_169 : lay 169 = some (.inr (0, 64, 0, 0)) := by decide +kernel
theorem ly_170 : lay 170 = some (.inl (3, ky_170)) := by decide +kernel
theorem ly_171 : lay 171 = some (.inr (1, 64, 0, 0)) := by decide +kernel
theorem ly_172 : lay 172 = some (.inr (0, 64, 0, 0)) := by decide +kernel
theorem ly_173 : lay 173 = some (.inl (13, ky_173)) := by decide +kernel
theorem ly_174 : lay 174 = some (.inr (0, 64, 0, 0)) := by decide +kernel
theorem ly_175 : lay 175 = some (.inr (0, 64, 0, 0)) := by decide +kernel
theorem ly_176 : lay 176 = some (.inr (2, 80000, 0, 0)) := by decide +kernel
theorem ly_177 : lay 177 = some (.inl (4, ky_177)) := by decide +kernel
theorem ly_178 : lay 178 = some (.inr (0, 7, 0, 0)) := by decide +kernel
theorem ly_179 : lay 179 = some (.inl (8, ky_179)) := by decide +kernel
theorem ly_180 : lay 180 = some (.inr (0, 2048, 0, 0)) := by decide +kernel
theorem ly_181 : lay 181 = some (.inr (0, 2048, 0, 0)) := by decide +kernel
theorem ly_182 : lay 182 = some (.inr (0, 2048, 0, 0)) := by decide +kernel
theorem ly_183 : lay 183 = some (.inr (0, 2048, 0, 0)) := by decide +kernel
theorem ly_184 : lay 184 = some (.inr (0, 2048, 0, 0)) := by decide +kernel
theorem ly_185 : lay 185 = some (.inr (0, 2048, 0, 0)) := by decide +kernel
theorem ly_186 : lay 186 = some (.inr (0, 2048, 0, 0)) := by decide +kernel
theorem ly_187 : lay 187 = some (.inr (0, 2048, 0, 0)) := by decide +kernel
theorem ly_188 : lay 188 = some (.inr (0, 2048, 0, 0)) := by decide +kernel
theorem ly_189 : lay 189 = some (.inr (0, 2048, 0, 0)) := by decide +kernel
theorem ly_190 : lay 190 = some (.inr (0, 2048, 0, 0)) := by decide +kernel
theorem ly_191 : lay 191 = some (.inr (0, 2048, 0, 0)) := by decide +kernel
theorem ly_192 : lay 192 = some (.inr (0, 2048, 0, 0)) := by decide +kernel
theorem ly_193 : lay 193 = some (.inl (11, ky_193)) := by decide +kernel
theorem ly_194 : lay 194 = some (.inl (8, ky_194)) := by decide +kernel
theorem ly_195 : lay 195 = some (.inr (0, 2048, 0, 0)) := by decide +kernel
theorem ly_196 : lay 196 = some (.inr (0, 2048, 0, 0)) := by decide +kernel
theorem ly_197 : lay 197 = some (.inr (0, 2048, 0, 0)) := by decide +kernel
theorem ly_198 : lay 198 = some (.inr (0, 2048, 0, 0)) := by decide +kernel
theorem ly_199 : lay 199 = some (.inr (0, 2048, 0, 0)) := by decide +kernel
theorem ly_200 : lay 200 = some (.inr (1, 16384, 0, 0)) := by decide +kernel
theorem ly_201 : lay 201 = some (.inr (1, 16384, 0, 0)) := by decide +kernel
theorem ly_202 : lay 202 = some (.inr (0, 8192, 0, 0)) := by decide +kernel
theorem ly_203 : lay 203 = some (.inr (0, 8192, 0, 0)) := by decide +kernel
theorem ly_204 : lay 204 = some (.inr (0, 8192, 0, 0)) := by decide +kernel
theorem ly_205 : lay 205 = some (.inr (0, 16384, 0, 0)) := by decide +kernel
theorem ly_206 : lay 206 = some (.inr (0, 16384, 0, 0)) := by decide +kernel
theorem ly_207 : lay 207 = some (.inr (0, 16384, 0, 0)) := by decide +kernel
theorem ly_208 : lay 208 = some (.inl (7, ky_208)) := by decide +kernel
theorem ly_209 : lay 209 = some (.inr (0, 16384, 0, 0)) := by decide +kernel
theorem ly_210 : lay 210 = some (.inr (0, 16384, 0, 0)) := by decide +kernel
theorem ly_211 : lay 211 = some (.inr (3, 16384, 0, 0)) := by decide +kernel
theorem ly_212 : lay 212 = some (.inr (3, 16384, 0, 0)) := by decide +kernel
theorem ly_213 : lay 213 = some (.inr (0, 8194, 0, 0)) := by decide +kernel
theorem ly_214 : lay 214 = some (.inr (0, 32768, 0, 0)) := by decide +kernel
theorem ly_215 : lay 215 = some (.inr (0, 8193, 0, 0)) := by decide +kernel
theorem ly_216 : lay 216 = some (.inr (0, 8192, 0, 0)) := by decide +kernel
theorem ly_217 : lay 217 = some (.inr (0, 2048, 0, 0)) := by decide +kernel
theorem ly_218 : lay 218 = some (.inr (0, 513, 0, 0)) := by decide +kernel
theorem ly_219 : lay 219 = some (.inr (1, 512, 0, 0)) := by decide +kernel
theorem ly_220 : lay 220 = some (.inr (0, 512, 0, 0)) := by decide +kernel
theorem ly_221 : lay 221 = some (.inr (1, 512, 0, 0)) := by decide +kernel
theorem ly_222 : lay 222 = some (.inl (6, ky_222)) := by decide +kernel
theorem ly_223 : lay 223 = some (.inl (8, ky_223)) := by decide +kernel
theorem ly_224 : lay 224 = some (.inr (0, 256, 0, 0)) := by decide +kernel
theorem ly_225 : lay 225 = some (.inr (0, 256, 0, 0)) := by decide +kernel
theorem ly_226 : lay 226 = some (.inr (0, 256, 0, 0)) := by decide +kernel
theorem ly_227 : lay 227 = some (.inr (0, 256, 0, 0)) := by decide +kernel
theorem ly_228 : lay 228 = some (.inr (0, 256, 0, 0)) := by decide +kernel
theorem ly_229 : lay 229 = some (.inr (0, 9, 0, 0)) := by decide +kernel
theorem ly_230 : lay 230 = some (.inr (1, 512, 0, 0)) := by decide +kernel
theorem ly_231 : lay 231 = some (.inr (0, 512, 0, 0)) := by decide +kernel
theorem ly_232 : lay 232 = some (.inr (0, 512, 0, 0)) := by decide +kernel
theorem ly_233 : lay 233 = some (.inr (0, 512, 0, 0)) := by decide +kernel
theorem ly_234 : lay 234 = some (.inr (1, 512, 0, 0)) := by decide +kernel
theorem ly_235 : lay 235 = some (.inr (1, 512, 0, 0)) := by decide +kernel
theorem ly_236 : lay 236 = some (.inr (0, 2, 0, 0)) := by decide +kernel
theorem ly_237 : lay 237 = some (.inr (0, 2, 0, 0)) := by decide +kernel
theorem ly_238 : lay 238 = some (.inl (5, ky_238)) := by decide +kernel
theorem ly_239 : lay 239 = some (.inr (1, 2048, 0, 0)) := by decide +kernel
theorem ly_240 : lay 240 = some (.inr (0, 1024, 0, 0)) := by decide +kernel
theorem ly_241 : lay 241 = some (.inr (0, 1024, 0, 0)) := by decide +kernel
theorem ly_242 : lay 242 = some (.inr (0, 1024, 0, 0)) := by decide +kernel
theorem ly_243 : lay 243 = some (.inr (0, 1024, 0, 0)) := by decide +kernel
theorem ly_244 : lay 244 = some (.inr (0, 2050, 0, 0)) := by decide +kernel
theorem ly_245 : lay 245 = some (.inr (1, 4129, 0, 0)) := by decide +kernel
theorem ly_246 : lay 246 = some (.inr (0, 3084, 0, 0)) := by decide +kernel
theorem ly_247 : lay 247 = some (.inr (0, 3084, 0, 0)) := by decide +kernel
theorem ly_248 : lay 248 = some (.inr (0, 514, 0, 0)) := by decide +kernel
theorem ly_249 : lay 249 = some (.inr (1, 512, 0, 0)) := by decide +kernel
theorem ly_250 : lay 250 = some (.inr (3, 2048, 0, 0)) := by decide +kernel
theorem ly_251 : lay 251 = some (.inr (0, 2048, 0, 0)) := by decide +kernel
theorem ly_252 : lay 252 = some (.inl (10, ky_252)) := by decide +kernel
theorem ly_253 : lay 253 = some (.inr (1, 32, 0, 0)) := by decide +kernel
theorem ly_254 : lay 254 = some (.inr (1, 32, 0, 0)) := by decide +kernel
theorem ly_255 : lay 255 = some (.inr (5, 16, 256, 1)) := by decide +kernel
theorem ly_256 : lay 256 = some (.inr (0, 280, 0, 0)) := by decide +kernel
theorem ly_257 : lay 257 = some (.inr (0, 280, 0, 0)) := by decide +kernel
theorem ly_258 : lay 258 = some (.inr (0, 280, 0, 0)) := by decide +kernel
theorem ly_259 : lay 259 = some (.inr (0, 280, 0, 0)) := by decide +kernel
theorem ly_260 : lay 260 = some (.inr (0, 280, 0, 0)) := by decide +kernel
theorem ly_261 : lay 261 = some (.inr (0, 280, 0, 0)) := by decide +kernel
theorem ly_262 : lay 262 = some (.inr (0, 280, 0, 0)) := by decide +kernel
theorem ly_263 : lay 263 = some (.inr (0, 280, 0, 0)) := by decide +kernel
theorem ly_264 : lay 264 = some (.inr (0, 280, 0, 0)) := by decide +kernel
theorem ly_265 : lay 265 = some (.inr (0, 280, 0, 0)) := by decide +kernel
theorem ly_266 : lay 266 = some (.inr (0, 280, 0, 0)) := by decide +kernel
theorem ly_267 : lay 267 = some (.inr (0, 280, 0, 0)) := by decide +kernel
theorem ly_268 : lay 268 = some (.inr (0, 280, 0, 0)) := by decide +kernel
theorem ly_269 : lay 269 = some (.inr (0, 280, 0, 0)) := by decide +kernel
theorem ly_270 : lay 270 = some (.inr (0, 280, 0, 0)) := by decide +kernel
theorem ly_271 : lay 271 = some (.inr (0, 280, 0, 0)) := by decide +kernel
theorem ly_272 : lay 272 = some (.inr (0, 16, 0, 0)) := by decide +kernel
theorem ly_273 : lay 273 = some (.inr (0, 16, 0, 0)) := by decide +kernel
theorem ly_274 : lay 274 = some (.inr (0, 4, 0, 0)) := by decide +kernel
theorem ly_275 : lay 275 = some (.inr (0, 32, 0, 0)) := by decide +kernel
theorem ly_276 : lay 276 = some (.inr (1, 32, 0, 0)) := by decide +kernel
theorem ly_277 : lay 277 = some (.inl (15, ky_277)) := by decide +kernel
theorem ly_278 : lay 278 = some (.inr (2, 65536, 0, 0)) := by decide +kernel
theorem ly_279 : lay 279 = some (.inr (2, 131072, 0, 0)) := by decide +kernel
theorem ly_280 : lay 280 = some (.inr (0, 33, 0, 0)) := by decide +kernel
theorem ly_281 : lay 281 = some (.inr (0, 67584, 0, 0)) := by decide +kernel
theorem ly_282 : lay 282 = some (.inr (0, 33, 0, 0)) := by decide +kernel
theorem ly_283 : lay 283 = some (.inr (0, 67584, 0, 0)) := by decide +kernel
theorem ly_284 : lay 284 = some (.inr (0, 67584, 0, 0)) := by decide +kernel
theorem ly_285 : lay 285 = some (.inr (0, 7, 0, 0)) := by decide +kernel
theorem ly_286 : lay 286 = some (.inr (0, 32, 0, 0)) := by decide +kernel
theorem ly_287 : lay 287 = some (.inr (0, 60, 0, 0)) := by decide +kernel
theorem ly_288 : lay 288 = some (.inr (1, 60, 0, 0)) := by decide +kernel
theorem ly_289 : lay 289 = some (.inr (0, 60, 0, 0)) := by decide +kernel
theorem ly_290 : lay 290 = some (.inr (1, 32, 0, 0)) := by decide +kernel
theorem ly_291 : lay 291 = some (.inr (1, 32, 0, 0)) := by decide +kernel
theorem ly_292 : lay 292 = some (.inr (1, 32, 0, 0)) := by decide +kernel
theorem ly_293 : lay 293 = some (.inr (1, 32, 0, 0)) := by decide +kernel
theorem ly_294 : lay 294 = some (.inr (1, 6000, 0, 0)) := by decide +kernel
theorem ly_295 : lay 295 = some (.inr (0, 20, 0, 0)) := by decide +kernel
theorem ly_296 : lay 296 = some (.inr (0, 20, 0, 0)) := by decide +kernel
theorem ly_297 : lay 297 = some (.inr (1, 32, 0, 0)) := by decide +kernel
theorem ly_298 : lay 298 = some (.inr (1, 32, 0, 0)) := by decide +kernel
theorem ly_299 : lay 299 = some (.inr (1, 4200, 0, 0)) := by decide +kernel
theorem ly_300 : lay 300 = some (.inr (1, 4200, 0, 0)) := by decide +kernel
theorem ly_301 : lay 301 = some (.inr (1, 4200, 0, 0)) := by decide +kernel
theorem ly_302 : lay 302 = some (.inr (1, 4200, 0, 0)) := by decide +kernel
theorem ly_303 : lay 303 = some (.inr (0, 4200, 0, 0)) := by decide +kernel
theorem ly_304 : lay 304 = some (.inr (0, 4200, 0, 0)) := by decide +kernel
theorem ly_305 : lay 305 = some (.inr (0, 4200, 0, 0)) := by decide +kernel
theorem ly_306 : lay 306 = some (.inr (0, 2048, 0, 0)) := by decide +kernel
theorem ly_307 : lay 307 = some (.inr (0, 2048, 0, 0)) := by decide +kernel
theorem ly_308 : lay 308 = some (.inr (0, 2048, 0, 0)) := by decide +kernel
theorem ly_309 : lay 309 = some (.inr (0, 2048, 0, 0)) := by decide +kernel
theorem ly_310 : lay 310 = some (.inr (0, 2049, 0, 0)) := by decide +kernel
theorem ly_311 : lay 311 = some (.inr (0, 1026, 0, 0)) := by decide +kernel
theorem ly_312 : lay 312 = some (.inr (1, 4200, 0, 0)) := by decide +kernel
theorem ly_313 : lay 313 = some (.inr (1, 4200, 0, 0)) := by decide +kernel
theorem ly_314 : lay 314 = some (.inr (0, 8400, 0, 0)) := by decide +kernel
theorem ly_315 : lay 315 = some (.inr (0, 8400, 0, 0)) := by decide +kernel
theorem ly_316 : lay 316 = some (.inr (0, 6300, 0, 0)) := by decide +kernel
theorem ly_317 : lay 317 = some (.inr (1, 8193, 0, 0)) := by decide +kernel
theorem ly_318 : lay 318 = some (.inr (1, 8193, 0, 0)) := by decide +kernel
theorem ly_319 : lay 319 = some (.inr (0, 8193, 0, 0)) := by decide +kernel
theorem ly_320 : lay 320 = some (.inr (1, 8193, 0, 0)) := by decide +kernel
theorem ly_321 : lay 321 = some (.inr (1, 8193, 0, 0)) := by decide +kernel
theorem ly_322 : lay 322 = some (.inr (3, 8193, 0, 0)) := by decide +kernel
theorem ly_323 : lay 323 = some (.inr (0, 16385, 0, 0)) := by decide +kernel
theorem ly_324 : lay 324 = some (.inr (0, 16385, 0, 0)) := by decide +kernel
theorem ly_325 : lay 325 = some (.inr (0, 16385, 0, 0)) := by decide +kernel
theorem ly_326 : lay 326 = some (.inr (0, 16385, 0, 0)) := by decide +kernel
theorem ly_327 : lay 327 = some (.inr (0, 16385, 0, 0)) := by decide +kernel
theorem ly_328 : lay 328 = some (.inr (3, 16385, 0, 0)) := by decide +kernel
theorem ly_329 : lay 329 = some (.inr (0, 16386, 0, 0)) := by decide +kernel
theorem ly_330 : lay 330 = some (.inr (0, 8193, 0, 0)) := by decide +kernel
theorem ly_331 : lay 331 = some (.inr (0, 33000, 0, 0)) := by decide +kernel
theorem ly_332 : lay 332 = some (.inr (0, 8193, 0, 0)) := by decide +kernel
theorem ly_333 : lay 333 = some (.inr (0, 8193, 0, 0)) := by decide +kernel
theorem ly_334 : lay 334 = some (.inr (1, 8193, 0, 0)) := by decide +kernel
theorem ly_335 : lay 335 = some (.inr (0, 8193, 0, 0)) := by decide +kernel
theorem ly_336 : lay 336 = some (.inr (0, 2, 0, 0)) := by decide +kernel
theorem ly_337 : lay 337 = some (.inr (0, 2, 0, 0)) := by decide +kernel
theorem ly_338 : lay 338 = some (.inr (0, 2, 0, 0)) := by decide +kernel
theorem ly_339 : lay 339 = some (.inr (0, 2, 0, 0)) := by decide +kernel
theorem ly_340 : lay 340 = some (.inr (3, 2, 0, 0)) := by decide +kernel
theorem ly_341 : lay 341 = some (.inr (0, 4200, 0, 0)) := by decide +kernel
theorem ly_342 : lay 342 = some (.inr (0, 2, 0, 0)) := by decide +kernel
theorem ly_343 : lay 343 = some (.inr (0, 9, 0, 0)) := by decide +kernel
theorem ly_344 : lay 344 = some (.inr (1, 5000, 0, 0)) := by decide +kernel
theorem ly_345 : lay 345 = some (.inr (1, 5000, 0, 0)) := by decide +kernel
theorem ly_346 : lay 346 = some (.inr (1, 1025, 0, 0)) := by decide +kernel
theorem ly_347 : lay 347 = some (.inr (1, 1025, 0, 0)) := by decide +kernel
theorem ly_348 : lay 348 = some (.inr (0, 1025, 0, 0)) := by decide +kernel
theorem ly_349 : lay 349 = some (.inr (3, 1048576, 0, 0)) := by decide +kernel
theorem ly_350 : lay 350 = some (.inr (0, 8200, 0, 0)) := by decide +kernel
theorem ly_351 : lay 351 = some (.inr (0, 8200, 0, 0)) := by decide +kernel
theorem ly_352 : lay 352 = some (.inr (0, 1025, 0, 0)) := by decide +kernel
theorem ly_353 : lay 353 = some (.inr (0, 2100, 0, 0)) := by decide +kernel
theorem ly_354 : lay 354 = some (.inr (0, 2100, 0, 0)) := by decide +kernel
theorem ly_355 : lay 355 = some (.inr (0, 2100, 0, 0)) := by decide +kernel
theorem ly_356 : lay 356 = some (.inr (3, 2048, 0, 0)) := by decide +kernel
theorem ly_357 : lay 357 = some (.inr (0, 2050, 0, 0)) := by decide +kernel
theorem ly_358 : lay 358 = some (.inr (0, 2050, 0, 0)) := by decide +kernel
theorem ly_359 : lay 359 = some (.inr (1, 1, 0, 0)) := by decide +kernel
theorem ly_32 : lay 32 = some (.inl (14, ky_32)) := by decide +kernel
theorem ly_33 : lay 33 = some (.inr (4, 32, 34, 4)) := by decide +kernel
end SLB
