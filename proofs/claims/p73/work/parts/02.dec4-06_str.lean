section
def dT_L_law_136 : List UInt8 := (0xf7 : UInt8) :: (0x93 : UInt8) :: (0x04 : UInt8) :: (0xac : UInt8) :: []
def dT_L_law_135 : List UInt8 := (0x1d : UInt8) :: (0x08 : UInt8) :: (0x60 : UInt8) :: (0x2e : UInt8) :: (0xb6 : UInt8) :: (0x01 : UInt8) :: (0x37 : UInt8) :: (0x9f : UInt8) :: (0x00 : UInt8) :: (0x05 : UInt8) :: (0x03 : UInt8) :: (0xac : UInt8) :: (0x84 : UInt8) :: (0x03 : UInt8) :: (0x06 : UInt8) :: (0xa7 : UInt8) :: dT_L_law_136
def dT_L_law_134 : List UInt8 := (0x2a : UInt8) :: (0x1d : UInt8) :: (0x05 : UInt8) :: (0x60 : UInt8) :: (0x2e : UInt8) :: (0x2a : UInt8) :: (0x1d : UInt8) :: (0x06 : UInt8) :: (0x60 : UInt8) :: (0x2e : UInt8) :: (0x2a : UInt8) :: (0x1d : UInt8) :: (0x07 : UInt8) :: (0x60 : UInt8) :: (0x2e : UInt8) :: (0x2a : UInt8) :: dT_L_law_135
def dT_L_law_133 : List UInt8 := (0x60 : UInt8) :: (0x2e : UInt8) :: (0x2a : UInt8) :: (0x1d : UInt8) :: (0x08 : UInt8) :: (0x60 : UInt8) :: (0x2e : UInt8) :: (0xb6 : UInt8) :: (0x01 : UInt8) :: (0x34 : UInt8) :: (0x2c : UInt8) :: (0x2a : UInt8) :: (0x1d : UInt8) :: (0x04 : UInt8) :: (0x60 : UInt8) :: (0x2e : UInt8) :: dT_L_law_134
def dT_L_law_132 : List UInt8 := (0x04 : UInt8) :: (0x60 : UInt8) :: (0x2e : UInt8) :: (0x2a : UInt8) :: (0x1d : UInt8) :: (0x05 : UInt8) :: (0x60 : UInt8) :: (0x2e : UInt8) :: (0x2a : UInt8) :: (0x1d : UInt8) :: (0x06 : UInt8) :: (0x60 : UInt8) :: (0x2e : UInt8) :: (0x2a : UInt8) :: (0x1d : UInt8) :: (0x07 : UInt8) :: dT_L_law_133
def dT_L_law_131 : List UInt8 := (0x85 : UInt8) :: (0x14 : UInt8) :: (0x01 : UInt8) :: (0x2d : UInt8) :: (0x7f : UInt8) :: (0x81 : UInt8) :: (0xb6 : UInt8) :: (0x01 : UInt8) :: (0x33 : UInt8) :: (0x57 : UInt8) :: (0xa7 : UInt8) :: (0x00 : UInt8) :: (0x42 : UInt8) :: (0x2b : UInt8) :: (0x2a : UInt8) :: (0x1d : UInt8) :: dT_L_law_132
def dT_L_law_130 : List UInt8 := (0x60 : UInt8) :: (0x2e : UInt8) :: (0x2a : UInt8) :: (0x1d : UInt8) :: (0x06 : UInt8) :: (0x60 : UInt8) :: (0x2e : UInt8) :: (0x85 : UInt8) :: (0x10 : UInt8) :: (0x20 : UInt8) :: (0x79 : UInt8) :: (0x2a : UInt8) :: (0x1d : UInt8) :: (0x07 : UInt8) :: (0x60 : UInt8) :: (0x2e : UInt8) :: dT_L_law_131
def dT_L_law_129 : List UInt8 := (0x2d : UInt8) :: (0x7f : UInt8) :: (0x81 : UInt8) :: (0xb6 : UInt8) :: (0x01 : UInt8) :: (0x2f : UInt8) :: (0x57 : UInt8) :: (0x2c : UInt8) :: (0x2a : UInt8) :: (0x1d : UInt8) :: (0x04 : UInt8) :: (0x60 : UInt8) :: (0x2e : UInt8) :: (0x2a : UInt8) :: (0x1d : UInt8) :: (0x05 : UInt8) :: dT_L_law_130
def dT_L_law_128 : List UInt8 := (0x1d : UInt8) :: (0x06 : UInt8) :: (0x60 : UInt8) :: (0x2e : UInt8) :: (0x85 : UInt8) :: (0x10 : UInt8) :: (0x20 : UInt8) :: (0x79 : UInt8) :: (0x2a : UInt8) :: (0x1d : UInt8) :: (0x07 : UInt8) :: (0x60 : UInt8) :: (0x2e : UInt8) :: (0x85 : UInt8) :: (0x14 : UInt8) :: (0x01 : UInt8) :: dT_L_law_129
def dT_L_law_127 : List UInt8 := (0x57 : UInt8) :: (0xa7 : UInt8) :: (0x00 : UInt8) :: (0x8b : UInt8) :: (0x2b : UInt8) :: (0x2a : UInt8) :: (0x1d : UInt8) :: (0x04 : UInt8) :: (0x60 : UInt8) :: (0x2e : UInt8) :: (0x2a : UInt8) :: (0x1d : UInt8) :: (0x05 : UInt8) :: (0x60 : UInt8) :: (0x2e : UInt8) :: (0x2a : UInt8) :: dT_L_law_128
def dT_L_law_126 : List UInt8 := (0x04 : UInt8) :: (0x60 : UInt8) :: (0x2e : UInt8) :: (0x2a : UInt8) :: (0x1d : UInt8) :: (0x05 : UInt8) :: (0x60 : UInt8) :: (0x2e : UInt8) :: (0x2a : UInt8) :: (0x1d : UInt8) :: (0x06 : UInt8) :: (0x60 : UInt8) :: (0x2e : UInt8) :: (0xb6 : UInt8) :: (0x01 : UInt8) :: (0x2c : UInt8) :: dT_L_law_127
def dT_L_law_125 : List UInt8 := (0x1d : UInt8) :: (0x05 : UInt8) :: (0x60 : UInt8) :: (0x2e : UInt8) :: (0x2a : UInt8) :: (0x1d : UInt8) :: (0x06 : UInt8) :: (0x60 : UInt8) :: (0x2e : UInt8) :: (0xb6 : UInt8) :: (0x01 : UInt8) :: (0x29 : UInt8) :: (0x57 : UInt8) :: (0x2c : UInt8) :: (0x2a : UInt8) :: (0x1d : UInt8) :: dT_L_law_126
def dT_L_law_124 : List UInt8 := (0x60 : UInt8) :: (0x2e : UInt8) :: (0xb6 : UInt8) :: (0x01 : UInt8) :: (0x28 : UInt8) :: (0x57 : UInt8) :: (0xa7 : UInt8) :: (0x00 : UInt8) :: (0xb6 : UInt8) :: (0x2b : UInt8) :: (0x2a : UInt8) :: (0x1d : UInt8) :: (0x04 : UInt8) :: (0x60 : UInt8) :: (0x2e : UInt8) :: (0x2a : UInt8) :: dT_L_law_125
def dT_L_law_123 : List UInt8 := (0x00 : UInt8) :: (0xcd : UInt8) :: (0x2b : UInt8) :: (0x2a : UInt8) :: (0x1d : UInt8) :: (0x04 : UInt8) :: (0x60 : UInt8) :: (0x2e : UInt8) :: (0xb6 : UInt8) :: (0x01 : UInt8) :: (0x25 : UInt8) :: (0x57 : UInt8) :: (0x2c : UInt8) :: (0x2a : UInt8) :: (0x1d : UInt8) :: (0x04 : UInt8) :: dT_L_law_124
def dT_L_law_122 : List UInt8 := (0x2e : UInt8) :: (0xb6 : UInt8) :: (0x01 : UInt8) :: (0x21 : UInt8) :: (0x57 : UInt8) :: (0x2c : UInt8) :: (0x2a : UInt8) :: (0x1d : UInt8) :: (0x04 : UInt8) :: (0x60 : UInt8) :: (0x2e : UInt8) :: (0xb6 : UInt8) :: (0x01 : UInt8) :: (0x24 : UInt8) :: (0x57 : UInt8) :: (0xa7 : UInt8) :: dT_L_law_123
def dT_L_law_121 : List UInt8 := (0x1d : UInt8) :: (0x04 : UInt8) :: (0x60 : UInt8) :: (0x2e : UInt8) :: (0xb6 : UInt8) :: (0x01 : UInt8) :: (0x20 : UInt8) :: (0x57 : UInt8) :: (0xa7 : UInt8) :: (0x00 : UInt8) :: (0xe4 : UInt8) :: (0x2b : UInt8) :: (0x2a : UInt8) :: (0x1d : UInt8) :: (0x04 : UInt8) :: (0x60 : UInt8) :: dT_L_law_122
def dT_L_law_120 : List UInt8 := (0x57 : UInt8) :: (0xa7 : UInt8) :: (0x00 : UInt8) :: (0xfb : UInt8) :: (0x2b : UInt8) :: (0x2a : UInt8) :: (0x1d : UInt8) :: (0x04 : UInt8) :: (0x60 : UInt8) :: (0x2e : UInt8) :: (0xb6 : UInt8) :: (0x01 : UInt8) :: (0x1d : UInt8) :: (0x57 : UInt8) :: (0x2c : UInt8) :: (0x2a : UInt8) :: dT_L_law_121
def dT_L_law_119 : List UInt8 := (0x19 : UInt8) :: (0x57 : UInt8) :: (0x2c : UInt8) :: (0x2a : UInt8) :: (0x1d : UInt8) :: (0x04 : UInt8) :: (0x60 : UInt8) :: (0x2e : UInt8) :: (0x2a : UInt8) :: (0x1d : UInt8) :: (0x05 : UInt8) :: (0x60 : UInt8) :: (0x2e : UInt8) :: (0xb6 : UInt8) :: (0x01 : UInt8) :: (0x1c : UInt8) :: dT_L_law_120
def dT_L_law_118 : List UInt8 := (0xa7 : UInt8) :: (0x01 : UInt8) :: (0x1c : UInt8) :: (0x2b : UInt8) :: (0x2a : UInt8) :: (0x1d : UInt8) :: (0x04 : UInt8) :: (0x60 : UInt8) :: (0x2e : UInt8) :: (0x2a : UInt8) :: (0x1d : UInt8) :: (0x05 : UInt8) :: (0x60 : UInt8) :: (0x2e : UInt8) :: (0xb6 : UInt8) :: (0x01 : UInt8) :: dT_L_law_119
def dT_L_law_117 : List UInt8 := (0x60 : UInt8) :: (0x2e : UInt8) :: (0x2a : UInt8) :: (0x1d : UInt8) :: (0x05 : UInt8) :: (0x60 : UInt8) :: (0x2e : UInt8) :: (0x2a : UInt8) :: (0x1d : UInt8) :: (0x06 : UInt8) :: (0x60 : UInt8) :: (0x2e : UInt8) :: (0xb6 : UInt8) :: (0x01 : UInt8) :: (0x18 : UInt8) :: (0x57 : UInt8) :: dT_L_law_118
def dT_L_law_116 : List UInt8 := (0x05 : UInt8) :: (0x60 : UInt8) :: (0x2e : UInt8) :: (0x2a : UInt8) :: (0x1d : UInt8) :: (0x06 : UInt8) :: (0x60 : UInt8) :: (0x2e : UInt8) :: (0xb6 : UInt8) :: (0x01 : UInt8) :: (0x14 : UInt8) :: (0x57 : UInt8) :: (0x2c : UInt8) :: (0x2a : UInt8) :: (0x1d : UInt8) :: (0x04 : UInt8) :: dT_L_law_117
def dT_L_law_115 : List UInt8 := (0x2e : UInt8) :: (0xb6 : UInt8) :: (0x01 : UInt8) :: (0x13 : UInt8) :: (0x57 : UInt8) :: (0xa7 : UInt8) :: (0x01 : UInt8) :: (0x47 : UInt8) :: (0x2b : UInt8) :: (0x2a : UInt8) :: (0x1d : UInt8) :: (0x04 : UInt8) :: (0x60 : UInt8) :: (0x2e : UInt8) :: (0x2a : UInt8) :: (0x1d : UInt8) :: dT_L_law_116
def dT_L_law_114 : List UInt8 := (0x60 : UInt8) :: (0x2e : UInt8) :: (0xb6 : UInt8) :: (0x01 : UInt8) :: (0x10 : UInt8) :: (0x57 : UInt8) :: (0x2c : UInt8) :: (0x2a : UInt8) :: (0x1d : UInt8) :: (0x04 : UInt8) :: (0x60 : UInt8) :: (0x2e : UInt8) :: (0x2a : UInt8) :: (0x1d : UInt8) :: (0x05 : UInt8) :: (0x60 : UInt8) :: dT_L_law_115
def dT_L_law_113 : List UInt8 := (0xb6 : UInt8) :: (0x01 : UInt8) :: (0x0f : UInt8) :: (0x57 : UInt8) :: (0xa7 : UInt8) :: (0x01 : UInt8) :: (0x68 : UInt8) :: (0x2b : UInt8) :: (0x2a : UInt8) :: (0x1d : UInt8) :: (0x04 : UInt8) :: (0x60 : UInt8) :: (0x2e : UInt8) :: (0x2a : UInt8) :: (0x1d : UInt8) :: (0x05 : UInt8) :: dT_L_law_114
def dT_L_law_112 : List UInt8 := (0x08 : UInt8) :: (0x57 : UInt8) :: (0x2c : UInt8) :: (0xb6 : UInt8) :: (0x01 : UInt8) :: (0x0b : UInt8) :: (0x57 : UInt8) :: (0xa7 : UInt8) :: (0x01 : UInt8) :: (0x75 : UInt8) :: (0x2b : UInt8) :: (0xb6 : UInt8) :: (0x01 : UInt8) :: (0x0c : UInt8) :: (0x57 : UInt8) :: (0x2c : UInt8) :: dT_L_law_113
def dT_L_law_111 : List UInt8 := (0x2e : UInt8) :: (0x2a : UInt8) :: (0x1d : UInt8) :: (0x05 : UInt8) :: (0x60 : UInt8) :: (0x2e : UInt8) :: (0xb6 : UInt8) :: (0x01 : UInt8) :: (0x07 : UInt8) :: (0x57 : UInt8) :: (0xa7 : UInt8) :: (0x01 : UInt8) :: (0x82 : UInt8) :: (0x2b : UInt8) :: (0xb6 : UInt8) :: (0x01 : UInt8) :: dT_L_law_112
def dT_L_law_110 : List UInt8 := (0x60 : UInt8) :: (0x2e : UInt8) :: (0x2a : UInt8) :: (0x1d : UInt8) :: (0x05 : UInt8) :: (0x60 : UInt8) :: (0x2e : UInt8) :: (0xb6 : UInt8) :: (0x01 : UInt8) :: (0x04 : UInt8) :: (0x57 : UInt8) :: (0x2c : UInt8) :: (0x2a : UInt8) :: (0x1d : UInt8) :: (0x04 : UInt8) :: (0x60 : UInt8) :: dT_L_law_111
def dT_L_law_109 : List UInt8 := (0x2a : UInt8) :: (0x1d : UInt8) :: (0x05 : UInt8) :: (0x60 : UInt8) :: (0x2e : UInt8) :: (0xb6 : UInt8) :: (0x01 : UInt8) :: (0x03 : UInt8) :: (0x57 : UInt8) :: (0xa7 : UInt8) :: (0x01 : UInt8) :: (0xa3 : UInt8) :: (0x2b : UInt8) :: (0x2a : UInt8) :: (0x1d : UInt8) :: (0x04 : UInt8) :: dT_L_law_110
def dT_L_law_108 : List UInt8 := (0x2e : UInt8) :: (0x2a : UInt8) :: (0x1d : UInt8) :: (0x05 : UInt8) :: (0x60 : UInt8) :: (0x2e : UInt8) :: (0xb6 : UInt8) :: (0x01 : UInt8) :: (0x00 : UInt8) :: (0x57 : UInt8) :: (0x2c : UInt8) :: (0x2a : UInt8) :: (0x1d : UInt8) :: (0x04 : UInt8) :: (0x60 : UInt8) :: (0x2e : UInt8) :: dT_L_law_109
def dT_L_law_107 : List UInt8 := (0x1d : UInt8) :: (0x05 : UInt8) :: (0x60 : UInt8) :: (0x2e : UInt8) :: (0xb6 : UInt8) :: (0x00 : UInt8) :: (0xff : UInt8) :: (0x58 : UInt8) :: (0xa7 : UInt8) :: (0x01 : UInt8) :: (0xc4 : UInt8) :: (0x2b : UInt8) :: (0x2a : UInt8) :: (0x1d : UInt8) :: (0x04 : UInt8) :: (0x60 : UInt8) :: dT_L_law_108
def dT_L_law_106 : List UInt8 := (0x2a : UInt8) :: (0x1d : UInt8) :: (0x05 : UInt8) :: (0x60 : UInt8) :: (0x2e : UInt8) :: (0xb6 : UInt8) :: (0x00 : UInt8) :: (0xfb : UInt8) :: (0x58 : UInt8) :: (0x2c : UInt8) :: (0x2a : UInt8) :: (0x1d : UInt8) :: (0x04 : UInt8) :: (0x60 : UInt8) :: (0x2e : UInt8) :: (0x2a : UInt8) :: dT_L_law_107
def dT_L_law_105 : List UInt8 := (0x06 : UInt8) :: (0x60 : UInt8) :: (0x2e : UInt8) :: (0xb6 : UInt8) :: (0x00 : UInt8) :: (0xfa : UInt8) :: (0x58 : UInt8) :: (0xa7 : UInt8) :: (0x01 : UInt8) :: (0xe5 : UInt8) :: (0x2b : UInt8) :: (0x2a : UInt8) :: (0x1d : UInt8) :: (0x04 : UInt8) :: (0x60 : UInt8) :: (0x2e : UInt8) :: dT_L_law_106
def dT_L_law_104 : List UInt8 := (0x00 : UInt8) :: (0xf7 : UInt8) :: (0x58 : UInt8) :: (0x2c : UInt8) :: (0x2a : UInt8) :: (0x1d : UInt8) :: (0x04 : UInt8) :: (0x60 : UInt8) :: (0x2e : UInt8) :: (0x2a : UInt8) :: (0x1d : UInt8) :: (0x05 : UInt8) :: (0x60 : UInt8) :: (0x2e : UInt8) :: (0x2a : UInt8) :: (0x1d : UInt8) :: dT_L_law_105
def dT_L_law_103 : List UInt8 := (0x2a : UInt8) :: (0x1d : UInt8) :: (0x04 : UInt8) :: (0x60 : UInt8) :: (0x2e : UInt8) :: (0x2a : UInt8) :: (0x1d : UInt8) :: (0x05 : UInt8) :: (0x60 : UInt8) :: (0x2e : UInt8) :: (0x2a : UInt8) :: (0x1d : UInt8) :: (0x06 : UInt8) :: (0x60 : UInt8) :: (0x2e : UInt8) :: (0xb6 : UInt8) :: dT_L_law_104
def dT_L_law_102 : List UInt8 := (0x05 : UInt8) :: (0x60 : UInt8) :: (0x2e : UInt8) :: (0x2a : UInt8) :: (0x1d : UInt8) :: (0x06 : UInt8) :: (0x60 : UInt8) :: (0x2e : UInt8) :: (0xb6 : UInt8) :: (0x00 : UInt8) :: (0xf6 : UInt8) :: (0x58 : UInt8) :: (0xa7 : UInt8) :: (0x02 : UInt8) :: (0x10 : UInt8) :: (0x2b : UInt8) :: dT_L_law_103
def dT_L_law_101 : List UInt8 := (0x1d : UInt8) :: (0x06 : UInt8) :: (0x60 : UInt8) :: (0x2e : UInt8) :: (0xb6 : UInt8) :: (0x00 : UInt8) :: (0xf2 : UInt8) :: (0x58 : UInt8) :: (0x2c : UInt8) :: (0x2a : UInt8) :: (0x1d : UInt8) :: (0x04 : UInt8) :: (0x60 : UInt8) :: (0x2e : UInt8) :: (0x2a : UInt8) :: (0x1d : UInt8) :: dT_L_law_102
def dT_L_law_100 : List UInt8 := (0x57 : UInt8) :: (0xa7 : UInt8) :: (0x02 : UInt8) :: (0x3b : UInt8) :: (0x2b : UInt8) :: (0x2a : UInt8) :: (0x1d : UInt8) :: (0x04 : UInt8) :: (0x60 : UInt8) :: (0x2e : UInt8) :: (0x2a : UInt8) :: (0x1d : UInt8) :: (0x05 : UInt8) :: (0x60 : UInt8) :: (0x2e : UInt8) :: (0x2a : UInt8) :: dT_L_law_101
def dT_L_law_99 : List UInt8 := (0xb6 : UInt8) :: (0x00 : UInt8) :: (0xed : UInt8) :: (0x57 : UInt8) :: (0xa7 : UInt8) :: (0x02 : UInt8) :: (0x48 : UInt8) :: (0x2b : UInt8) :: (0xb6 : UInt8) :: (0x00 : UInt8) :: (0xee : UInt8) :: (0x57 : UInt8) :: (0x2c : UInt8) :: (0xb6 : UInt8) :: (0x00 : UInt8) :: (0xf1 : UInt8) :: dT_L_law_100
def dT_L_law_98 : List UInt8 := (0x2b : UInt8) :: (0x2a : UInt8) :: (0x1d : UInt8) :: (0x04 : UInt8) :: (0x60 : UInt8) :: (0x2e : UInt8) :: (0xb6 : UInt8) :: (0x00 : UInt8) :: (0xea : UInt8) :: (0x57 : UInt8) :: (0x2c : UInt8) :: (0x2a : UInt8) :: (0x1d : UInt8) :: (0x04 : UInt8) :: (0x60 : UInt8) :: (0x2e : UInt8) :: dT_L_law_99
def dT_L_law_97 : List UInt8 := (0x1d : UInt8) :: (0x06 : UInt8) :: (0x60 : UInt8) :: (0x2e : UInt8) :: (0x2a : UInt8) :: (0x1d : UInt8) :: (0x07 : UInt8) :: (0x60 : UInt8) :: (0x2e : UInt8) :: (0xb6 : UInt8) :: (0x00 : UInt8) :: (0xe9 : UInt8) :: (0x57 : UInt8) :: (0xa7 : UInt8) :: (0x02 : UInt8) :: (0x5f : UInt8) :: dT_L_law_98
def dT_L_law_96 : List UInt8 := (0xb6 : UInt8) :: (0x00 : UInt8) :: (0xe5 : UInt8) :: (0x57 : UInt8) :: (0x2c : UInt8) :: (0x2a : UInt8) :: (0x1d : UInt8) :: (0x04 : UInt8) :: (0x60 : UInt8) :: (0x2e : UInt8) :: (0x2a : UInt8) :: (0x1d : UInt8) :: (0x05 : UInt8) :: (0x60 : UInt8) :: (0x2e : UInt8) :: (0x2a : UInt8) :: dT_L_law_97
def dT_L_law_95 : List UInt8 := (0x2e : UInt8) :: (0x2a : UInt8) :: (0x1d : UInt8) :: (0x05 : UInt8) :: (0x60 : UInt8) :: (0x2e : UInt8) :: (0x2a : UInt8) :: (0x1d : UInt8) :: (0x06 : UInt8) :: (0x60 : UInt8) :: (0x2e : UInt8) :: (0x2a : UInt8) :: (0x1d : UInt8) :: (0x07 : UInt8) :: (0x60 : UInt8) :: (0x2e : UInt8) :: dT_L_law_96
def dT_L_law_94 : List UInt8 := (0x1d : UInt8) :: (0x05 : UInt8) :: (0x60 : UInt8) :: (0x2e : UInt8) :: (0xb6 : UInt8) :: (0x00 : UInt8) :: (0xe4 : UInt8) :: (0x57 : UInt8) :: (0xa7 : UInt8) :: (0x02 : UInt8) :: (0x94 : UInt8) :: (0x2b : UInt8) :: (0x2a : UInt8) :: (0x1d : UInt8) :: (0x04 : UInt8) :: (0x60 : UInt8) :: dT_L_law_95
def dT_L_law_93 : List UInt8 := (0x2a : UInt8) :: (0x1d : UInt8) :: (0x05 : UInt8) :: (0x60 : UInt8) :: (0x2e : UInt8) :: (0xb6 : UInt8) :: (0x00 : UInt8) :: (0xe1 : UInt8) :: (0x57 : UInt8) :: (0x2c : UInt8) :: (0x2a : UInt8) :: (0x1d : UInt8) :: (0x04 : UInt8) :: (0x60 : UInt8) :: (0x2e : UInt8) :: (0x2a : UInt8) :: dT_L_law_94
def dT_L_law_92 : List UInt8 := (0x04 : UInt8) :: (0x60 : UInt8) :: (0x2e : UInt8) :: (0xb6 : UInt8) :: (0x00 : UInt8) :: (0xe0 : UInt8) :: (0x57 : UInt8) :: (0xa7 : UInt8) :: (0x02 : UInt8) :: (0xb5 : UInt8) :: (0x2b : UInt8) :: (0x2a : UInt8) :: (0x1d : UInt8) :: (0x04 : UInt8) :: (0x60 : UInt8) :: (0x2e : UInt8) :: dT_L_law_93
def dT_L_law_91 : List UInt8 := (0xa7 : UInt8) :: (0x02 : UInt8) :: (0xcc : UInt8) :: (0x2b : UInt8) :: (0x2a : UInt8) :: (0x1d : UInt8) :: (0x04 : UInt8) :: (0x60 : UInt8) :: (0x2e : UInt8) :: (0xb6 : UInt8) :: (0x00 : UInt8) :: (0xdd : UInt8) :: (0x57 : UInt8) :: (0x2c : UInt8) :: (0x2a : UInt8) :: (0x1d : UInt8) :: dT_L_law_92
def dT_L_law_90 : List UInt8 := (0x60 : UInt8) :: (0x2e : UInt8) :: (0xb6 : UInt8) :: (0x00 : UInt8) :: (0xd9 : UInt8) :: (0x57 : UInt8) :: (0x2c : UInt8) :: (0x2a : UInt8) :: (0x1d : UInt8) :: (0x04 : UInt8) :: (0x60 : UInt8) :: (0x2e : UInt8) :: (0xb6 : UInt8) :: (0x00 : UInt8) :: (0xdc : UInt8) :: (0x57 : UInt8) :: dT_L_law_91
def dT_L_law_89 : List UInt8 := (0x2a : UInt8) :: (0x1d : UInt8) :: (0x04 : UInt8) :: (0x60 : UInt8) :: (0x2e : UInt8) :: (0xb6 : UInt8) :: (0x00 : UInt8) :: (0xd8 : UInt8) :: (0x57 : UInt8) :: (0xa7 : UInt8) :: (0x02 : UInt8) :: (0xe3 : UInt8) :: (0x2b : UInt8) :: (0x2a : UInt8) :: (0x1d : UInt8) :: (0x04 : UInt8) :: dT_L_law_90
def dT_L_law_88 : List UInt8 := (0xd4 : UInt8) :: (0x57 : UInt8) :: (0xa7 : UInt8) :: (0x02 : UInt8) :: (0xfa : UInt8) :: (0x2b : UInt8) :: (0x2a : UInt8) :: (0x1d : UInt8) :: (0x04 : UInt8) :: (0x60 : UInt8) :: (0x2e : UInt8) :: (0xb6 : UInt8) :: (0x00 : UInt8) :: (0xd5 : UInt8) :: (0x57 : UInt8) :: (0x2c : UInt8) :: dT_L_law_89
def dT_L_law_87 : List UInt8 := (0x1d : UInt8) :: (0x04 : UInt8) :: (0x60 : UInt8) :: (0x2e : UInt8) :: (0xb6 : UInt8) :: (0x00 : UInt8) :: (0xd1 : UInt8) :: (0x57 : UInt8) :: (0x2c : UInt8) :: (0x2a : UInt8) :: (0x1d : UInt8) :: (0x04 : UInt8) :: (0x60 : UInt8) :: (0x2e : UInt8) :: (0xb6 : UInt8) :: (0x00 : UInt8) :: dT_L_law_88
def dT_L_law_86 : List UInt8 := (0x57 : UInt8) :: (0x2c : UInt8) :: (0x2a : UInt8) :: (0x1d : UInt8) :: (0x04 : UInt8) :: (0x60 : UInt8) :: (0x2e : UInt8) :: (0xb6 : UInt8) :: (0x00 : UInt8) :: (0xd0 : UInt8) :: (0x57 : UInt8) :: (0xa7 : UInt8) :: (0x03 : UInt8) :: (0x11 : UInt8) :: (0x2b : UInt8) :: (0x2a : UInt8) :: dT_L_law_87
def dT_L_law_85 : List UInt8 := (0xb6 : UInt8) :: (0x00 : UInt8) :: (0xcc : UInt8) :: (0x57 : UInt8) :: (0xa7 : UInt8) :: (0x03 : UInt8) :: (0x28 : UInt8) :: (0x2b : UInt8) :: (0x2a : UInt8) :: (0x1d : UInt8) :: (0x04 : UInt8) :: (0x60 : UInt8) :: (0x2e : UInt8) :: (0xb6 : UInt8) :: (0x00 : UInt8) :: (0xcd : UInt8) :: dT_L_law_86
def dT_L_law_84 : List UInt8 := (0x2b : UInt8) :: (0x2a : UInt8) :: (0x1d : UInt8) :: (0x04 : UInt8) :: (0x60 : UInt8) :: (0x2e : UInt8) :: (0xb6 : UInt8) :: (0x00 : UInt8) :: (0xc9 : UInt8) :: (0x57 : UInt8) :: (0x2c : UInt8) :: (0x2a : UInt8) :: (0x1d : UInt8) :: (0x04 : UInt8) :: (0x60 : UInt8) :: (0x2e : UInt8) :: dT_L_law_85
def dT_L_law_83 : List UInt8 := (0x00 : UInt8) :: (0xc5 : UInt8) :: (0x57 : UInt8) :: (0x2c : UInt8) :: (0x2a : UInt8) :: (0x1d : UInt8) :: (0x04 : UInt8) :: (0x60 : UInt8) :: (0x2e : UInt8) :: (0xb6 : UInt8) :: (0x00 : UInt8) :: (0xc8 : UInt8) :: (0x57 : UInt8) :: (0xa7 : UInt8) :: (0x03 : UInt8) :: (0x3f : UInt8) :: dT_L_law_84
def dT_L_law_82 : List UInt8 := (0x60 : UInt8) :: (0x2e : UInt8) :: (0xb6 : UInt8) :: (0x00 : UInt8) :: (0xc4 : UInt8) :: (0x57 : UInt8) :: (0xa7 : UInt8) :: (0x03 : UInt8) :: (0x56 : UInt8) :: (0x2b : UInt8) :: (0x2a : UInt8) :: (0x1d : UInt8) :: (0x04 : UInt8) :: (0x60 : UInt8) :: (0x2e : UInt8) :: (0xb6 : UInt8) :: dT_L_law_83
def dT_L_law_81 : List UInt8 := (0x03 : UInt8) :: (0x6d : UInt8) :: (0x2b : UInt8) :: (0x2a : UInt8) :: (0x1d : UInt8) :: (0x04 : UInt8) :: (0x60 : UInt8) :: (0x2e : UInt8) :: (0xb6 : UInt8) :: (0x00 : UInt8) :: (0xc1 : UInt8) :: (0x57 : UInt8) :: (0x2c : UInt8) :: (0x2a : UInt8) :: (0x1d : UInt8) :: (0x04 : UInt8) :: dT_L_law_82
def dT_L_law_80 : List UInt8 := (0x2e : UInt8) :: (0xb6 : UInt8) :: (0x00 : UInt8) :: (0xbd : UInt8) :: (0x57 : UInt8) :: (0x2c : UInt8) :: (0x2a : UInt8) :: (0x1d : UInt8) :: (0x04 : UInt8) :: (0x60 : UInt8) :: (0x2e : UInt8) :: (0xb6 : UInt8) :: (0x00 : UInt8) :: (0xc0 : UInt8) :: (0x57 : UInt8) :: (0xa7 : UInt8) :: dT_L_law_81
def dT_L_law_79 : List UInt8 := (0x1d : UInt8) :: (0x04 : UInt8) :: (0x60 : UInt8) :: (0x2e : UInt8) :: (0xb6 : UInt8) :: (0x00 : UInt8) :: (0xbc : UInt8) :: (0x57 : UInt8) :: (0xa7 : UInt8) :: (0x03 : UInt8) :: (0x84 : UInt8) :: (0x2b : UInt8) :: (0x2a : UInt8) :: (0x1d : UInt8) :: (0x04 : UInt8) :: (0x60 : UInt8) :: dT_L_law_80
def dT_L_law_78 : List UInt8 := (0x57 : UInt8) :: (0xa7 : UInt8) :: (0x03 : UInt8) :: (0x9b : UInt8) :: (0x2b : UInt8) :: (0x2a : UInt8) :: (0x1d : UInt8) :: (0x04 : UInt8) :: (0x60 : UInt8) :: (0x2e : UInt8) :: (0xb6 : UInt8) :: (0x00 : UInt8) :: (0xb9 : UInt8) :: (0x57 : UInt8) :: (0x2c : UInt8) :: (0x2a : UInt8) :: dT_L_law_79
def dT_L_law_77 : List UInt8 := (0x04 : UInt8) :: (0x60 : UInt8) :: (0x2e : UInt8) :: (0xb6 : UInt8) :: (0x00 : UInt8) :: (0xb5 : UInt8) :: (0x57 : UInt8) :: (0x2c : UInt8) :: (0x2a : UInt8) :: (0x1d : UInt8) :: (0x04 : UInt8) :: (0x60 : UInt8) :: (0x2e : UInt8) :: (0xb6 : UInt8) :: (0x00 : UInt8) :: (0xb8 : UInt8) :: dT_L_law_78
def dT_L_law_76 : List UInt8 := (0x2c : UInt8) :: (0x2a : UInt8) :: (0x1d : UInt8) :: (0x04 : UInt8) :: (0x60 : UInt8) :: (0x2e : UInt8) :: (0xb6 : UInt8) :: (0x00 : UInt8) :: (0xb4 : UInt8) :: (0x57 : UInt8) :: (0xa7 : UInt8) :: (0x03 : UInt8) :: (0xb2 : UInt8) :: (0x2b : UInt8) :: (0x2a : UInt8) :: (0x1d : UInt8) :: dT_L_law_77
def dT_L_law_75 : List UInt8 := (0x00 : UInt8) :: (0xb0 : UInt8) :: (0x57 : UInt8) :: (0xa7 : UInt8) :: (0x03 : UInt8) :: (0xc9 : UInt8) :: (0x2b : UInt8) :: (0x2a : UInt8) :: (0x1d : UInt8) :: (0x04 : UInt8) :: (0x60 : UInt8) :: (0x2e : UInt8) :: (0xb6 : UInt8) :: (0x00 : UInt8) :: (0xb1 : UInt8) :: (0x57 : UInt8) :: dT_L_law_76
def dT_L_law_74 : List UInt8 := (0x60 : UInt8) :: (0x2e : UInt8) :: (0xb6 : UInt8) :: (0x00 : UInt8) :: (0xac : UInt8) :: (0x57 : UInt8) :: (0xa7 : UInt8) :: (0x03 : UInt8) :: (0xd6 : UInt8) :: (0x2b : UInt8) :: (0xb6 : UInt8) :: (0x00 : UInt8) :: (0xad : UInt8) :: (0x57 : UInt8) :: (0x2c : UInt8) :: (0xb6 : UInt8) :: dT_L_law_75
def dT_L_law_73 : List UInt8 := (0x03 : UInt8) :: (0xed : UInt8) :: (0x2b : UInt8) :: (0x2a : UInt8) :: (0x1d : UInt8) :: (0x04 : UInt8) :: (0x60 : UInt8) :: (0x2e : UInt8) :: (0xb6 : UInt8) :: (0x00 : UInt8) :: (0xa9 : UInt8) :: (0x57 : UInt8) :: (0x2c : UInt8) :: (0x2a : UInt8) :: (0x1d : UInt8) :: (0x04 : UInt8) :: dT_L_law_74
def dT_L_law_72 : List UInt8 := (0xa4 : UInt8) :: (0x57 : UInt8) :: (0xa7 : UInt8) :: (0x03 : UInt8) :: (0xfa : UInt8) :: (0x2b : UInt8) :: (0xb6 : UInt8) :: (0x00 : UInt8) :: (0xa5 : UInt8) :: (0x57 : UInt8) :: (0x2c : UInt8) :: (0xb6 : UInt8) :: (0x00 : UInt8) :: (0xa8 : UInt8) :: (0x57 : UInt8) :: (0xa7 : UInt8) :: dT_L_law_73
def dT_L_law_71 : List UInt8 := (0x2c : UInt8) :: (0xb6 : UInt8) :: (0x00 : UInt8) :: (0xa0 : UInt8) :: (0x57 : UInt8) :: (0xa7 : UInt8) :: (0x04 : UInt8) :: (0x07 : UInt8) :: (0x2b : UInt8) :: (0xb6 : UInt8) :: (0x00 : UInt8) :: (0xa1 : UInt8) :: (0x57 : UInt8) :: (0x2c : UInt8) :: (0xb6 : UInt8) :: (0x00 : UInt8) :: dT_L_law_72
def dT_L_law_70 : List UInt8 := (0x1d : UInt8) :: (0x04 : UInt8) :: (0x60 : UInt8) :: (0x2e : UInt8) :: (0xb6 : UInt8) :: (0x00 : UInt8) :: (0x9c : UInt8) :: (0x57 : UInt8) :: (0xa7 : UInt8) :: (0x04 : UInt8) :: (0x14 : UInt8) :: (0x2b : UInt8) :: (0xb6 : UInt8) :: (0x00 : UInt8) :: (0x9d : UInt8) :: (0x57 : UInt8) :: dT_L_law_71
def dT_L_law_69 : List UInt8 := (0x57 : UInt8) :: (0xa7 : UInt8) :: (0x04 : UInt8) :: (0x2b : UInt8) :: (0x2b : UInt8) :: (0x2a : UInt8) :: (0x1d : UInt8) :: (0x04 : UInt8) :: (0x60 : UInt8) :: (0x2e : UInt8) :: (0xb6 : UInt8) :: (0x00 : UInt8) :: (0x99 : UInt8) :: (0x57 : UInt8) :: (0x2c : UInt8) :: (0x2a : UInt8) :: dT_L_law_70
def dT_L_law_68 : List UInt8 := (0xb6 : UInt8) :: (0x00 : UInt8) :: (0x94 : UInt8) :: (0x57 : UInt8) :: (0xa7 : UInt8) :: (0x04 : UInt8) :: (0x38 : UInt8) :: (0x2b : UInt8) :: (0xb6 : UInt8) :: (0x00 : UInt8) :: (0x95 : UInt8) :: (0x57 : UInt8) :: (0x2c : UInt8) :: (0xb6 : UInt8) :: (0x00 : UInt8) :: (0x98 : UInt8) :: dT_L_law_69
def dT_L_law_67 : List UInt8 := (0x2b : UInt8) :: (0x2a : UInt8) :: (0x1d : UInt8) :: (0x04 : UInt8) :: (0x60 : UInt8) :: (0x2e : UInt8) :: (0xb6 : UInt8) :: (0x00 : UInt8) :: (0x91 : UInt8) :: (0x57 : UInt8) :: (0x2c : UInt8) :: (0x2a : UInt8) :: (0x1d : UInt8) :: (0x04 : UInt8) :: (0x60 : UInt8) :: (0x2e : UInt8) :: dT_L_law_68
def dT_L_law_66 : List UInt8 := (0x00 : UInt8) :: (0x8d : UInt8) :: (0x57 : UInt8) :: (0x2c : UInt8) :: (0x2a : UInt8) :: (0x1d : UInt8) :: (0x04 : UInt8) :: (0x60 : UInt8) :: (0x2e : UInt8) :: (0xb6 : UInt8) :: (0x00 : UInt8) :: (0x90 : UInt8) :: (0x57 : UInt8) :: (0xa7 : UInt8) :: (0x04 : UInt8) :: (0x4f : UInt8) :: dT_L_law_67
def dT_L_law_65 : List UInt8 := (0x60 : UInt8) :: (0x2e : UInt8) :: (0xb6 : UInt8) :: (0x00 : UInt8) :: (0x8c : UInt8) :: (0x57 : UInt8) :: (0xa7 : UInt8) :: (0x04 : UInt8) :: (0x66 : UInt8) :: (0x2b : UInt8) :: (0x2a : UInt8) :: (0x1d : UInt8) :: (0x04 : UInt8) :: (0x60 : UInt8) :: (0x2e : UInt8) :: (0xb6 : UInt8) :: dT_L_law_66
def dT_L_law_64 : List UInt8 := (0x04 : UInt8) :: (0x7d : UInt8) :: (0x2b : UInt8) :: (0x2a : UInt8) :: (0x1d : UInt8) :: (0x04 : UInt8) :: (0x60 : UInt8) :: (0x2e : UInt8) :: (0xb6 : UInt8) :: (0x00 : UInt8) :: (0x89 : UInt8) :: (0x57 : UInt8) :: (0x2c : UInt8) :: (0x2a : UInt8) :: (0x1d : UInt8) :: (0x04 : UInt8) :: dT_L_law_65
def dT_L_law_63 : List UInt8 := (0x2e : UInt8) :: (0xb6 : UInt8) :: (0x00 : UInt8) :: (0x85 : UInt8) :: (0x57 : UInt8) :: (0x2c : UInt8) :: (0x2a : UInt8) :: (0x1d : UInt8) :: (0x04 : UInt8) :: (0x60 : UInt8) :: (0x2e : UInt8) :: (0xb6 : UInt8) :: (0x00 : UInt8) :: (0x88 : UInt8) :: (0x57 : UInt8) :: (0xa7 : UInt8) :: dT_L_law_64
def dT_L_law_62 : List UInt8 := (0x00 : UInt8) :: (0x81 : UInt8) :: (0x57 : UInt8) :: (0x2c : UInt8) :: (0xb6 : UInt8) :: (0x00 : UInt8) :: (0x84 : UInt8) :: (0x57 : UInt8) :: (0xa7 : UInt8) :: (0x04 : UInt8) :: (0x94 : UInt8) :: (0x2b : UInt8) :: (0x2a : UInt8) :: (0x1d : UInt8) :: (0x04 : UInt8) :: (0x60 : UInt8) :: dT_L_law_63
def dT_L_law_61 : List UInt8 := (0x57 : UInt8) :: (0x2c : UInt8) :: (0x2a : UInt8) :: (0x1d : UInt8) :: (0x04 : UInt8) :: (0x60 : UInt8) :: (0x2e : UInt8) :: (0xb6 : UInt8) :: (0x00 : UInt8) :: (0x80 : UInt8) :: (0x57 : UInt8) :: (0xa7 : UInt8) :: (0x04 : UInt8) :: (0xa1 : UInt8) :: (0x2b : UInt8) :: (0xb6 : UInt8) :: dT_L_law_62
def dT_L_law_60 : List UInt8 := (0xb6 : UInt8) :: (0x00 : UInt8) :: (0x7c : UInt8) :: (0x57 : UInt8) :: (0xa7 : UInt8) :: (0x04 : UInt8) :: (0xb8 : UInt8) :: (0x2b : UInt8) :: (0x2a : UInt8) :: (0x1d : UInt8) :: (0x04 : UInt8) :: (0x60 : UInt8) :: (0x2e : UInt8) :: (0xb6 : UInt8) :: (0x00 : UInt8) :: (0x7d : UInt8) :: dT_L_law_61
def dT_L_law_59 : List UInt8 := (0x2b : UInt8) :: (0x2a : UInt8) :: (0x1d : UInt8) :: (0x04 : UInt8) :: (0x60 : UInt8) :: (0x2e : UInt8) :: (0xb6 : UInt8) :: (0x00 : UInt8) :: (0x79 : UInt8) :: (0x57 : UInt8) :: (0x2c : UInt8) :: (0x2a : UInt8) :: (0x1d : UInt8) :: (0x04 : UInt8) :: (0x60 : UInt8) :: (0x2e : UInt8) :: dT_L_law_60
def dT_L_law_58 : List UInt8 := (0xa7 : UInt8) :: (0x04 : UInt8) :: (0xdc : UInt8) :: (0x2b : UInt8) :: (0xb6 : UInt8) :: (0x00 : UInt8) :: (0x75 : UInt8) :: (0x57 : UInt8) :: (0x2c : UInt8) :: (0xb6 : UInt8) :: (0x00 : UInt8) :: (0x78 : UInt8) :: (0x57 : UInt8) :: (0xa7 : UInt8) :: (0x04 : UInt8) :: (0xcf : UInt8) :: dT_L_law_59
def dT_L_law_57 : List UInt8 := (0x60 : UInt8) :: (0x2e : UInt8) :: (0xb6 : UInt8) :: (0x00 : UInt8) :: (0x71 : UInt8) :: (0x57 : UInt8) :: (0x2c : UInt8) :: (0x2a : UInt8) :: (0x1d : UInt8) :: (0x04 : UInt8) :: (0x60 : UInt8) :: (0x2e : UInt8) :: (0xb6 : UInt8) :: (0x00 : UInt8) :: (0x74 : UInt8) :: (0x57 : UInt8) :: dT_L_law_58
def dT_L_law_56 : List UInt8 := (0x2a : UInt8) :: (0x1d : UInt8) :: (0x04 : UInt8) :: (0x60 : UInt8) :: (0x2e : UInt8) :: (0xb6 : UInt8) :: (0x00 : UInt8) :: (0x70 : UInt8) :: (0x57 : UInt8) :: (0xa7 : UInt8) :: (0x04 : UInt8) :: (0xf3 : UInt8) :: (0x2b : UInt8) :: (0x2a : UInt8) :: (0x1d : UInt8) :: (0x04 : UInt8) :: dT_L_law_57
def dT_L_law_55 : List UInt8 := (0x6c : UInt8) :: (0x57 : UInt8) :: (0xa7 : UInt8) :: (0x05 : UInt8) :: (0x0a : UInt8) :: (0x2b : UInt8) :: (0x2a : UInt8) :: (0x1d : UInt8) :: (0x04 : UInt8) :: (0x60 : UInt8) :: (0x2e : UInt8) :: (0xb6 : UInt8) :: (0x00 : UInt8) :: (0x6d : UInt8) :: (0x57 : UInt8) :: (0x2c : UInt8) :: dT_L_law_56
def dT_L_law_54 : List UInt8 := (0x2e : UInt8) :: (0xb6 : UInt8) :: (0x00 : UInt8) :: (0x68 : UInt8) :: (0x57 : UInt8) :: (0xa7 : UInt8) :: (0x05 : UInt8) :: (0x17 : UInt8) :: (0x2b : UInt8) :: (0xb6 : UInt8) :: (0x00 : UInt8) :: (0x69 : UInt8) :: (0x57 : UInt8) :: (0x2c : UInt8) :: (0xb6 : UInt8) :: (0x00 : UInt8) :: dT_L_law_55
def dT_L_law_53 : List UInt8 := (0x2e : UInt8) :: (0x2b : UInt8) :: (0x2a : UInt8) :: (0x1d : UInt8) :: (0x04 : UInt8) :: (0x60 : UInt8) :: (0x2e : UInt8) :: (0xb6 : UInt8) :: (0x00 : UInt8) :: (0x65 : UInt8) :: (0x57 : UInt8) :: (0x2c : UInt8) :: (0x2a : UInt8) :: (0x1d : UInt8) :: (0x04 : UInt8) :: (0x60 : UInt8) :: dT_L_law_54
def dT_L_law_52 : List UInt8 := (0x2a : UInt8) :: (0x1d : UInt8) :: (0x04 : UInt8) :: (0x60 : UInt8) :: (0x2e : UInt8) :: (0x2a : UInt8) :: (0x1d : UInt8) :: (0x05 : UInt8) :: (0x60 : UInt8) :: (0x2e : UInt8) :: (0xb6 : UInt8) :: (0x00 : UInt8) :: (0x64 : UInt8) :: (0x57 : UInt8) :: (0xa7 : UInt8) :: (0x05 : UInt8) :: dT_L_law_53
def dT_L_law_51 : List UInt8 := (0x2b : UInt8) :: (0x2a : UInt8) :: (0x1d : UInt8) :: (0x04 : UInt8) :: (0x60 : UInt8) :: (0x2e : UInt8) :: (0x2a : UInt8) :: (0x1d : UInt8) :: (0x05 : UInt8) :: (0x60 : UInt8) :: (0x2e : UInt8) :: (0xb6 : UInt8) :: (0x00 : UInt8) :: (0x61 : UInt8) :: (0x57 : UInt8) :: (0x2c : UInt8) :: dT_L_law_52
def dT_L_law_50 : List UInt8 := (0x00 : UInt8) :: (0x5d : UInt8) :: (0x57 : UInt8) :: (0x2c : UInt8) :: (0x2a : UInt8) :: (0x1d : UInt8) :: (0x04 : UInt8) :: (0x60 : UInt8) :: (0x2e : UInt8) :: (0xb6 : UInt8) :: (0x00 : UInt8) :: (0x60 : UInt8) :: (0x57 : UInt8) :: (0xa7 : UInt8) :: (0x05 : UInt8) :: (0x4f : UInt8) :: dT_L_law_51
def dT_L_law_49 : List UInt8 := (0x57 : UInt8) :: (0x2c : UInt8) :: (0xb6 : UInt8) :: (0x00 : UInt8) :: (0x5c : UInt8) :: (0x57 : UInt8) :: (0xa7 : UInt8) :: (0x05 : UInt8) :: (0x66 : UInt8) :: (0x2b : UInt8) :: (0x2a : UInt8) :: (0x1d : UInt8) :: (0x04 : UInt8) :: (0x60 : UInt8) :: (0x2e : UInt8) :: (0xb6 : UInt8) :: dT_L_law_50
def dT_L_law_48 : List UInt8 := (0xb6 : UInt8) :: (0x00 : UInt8) :: (0x55 : UInt8) :: (0x57 : UInt8) :: (0x2c : UInt8) :: (0xb6 : UInt8) :: (0x00 : UInt8) :: (0x58 : UInt8) :: (0x57 : UInt8) :: (0xa7 : UInt8) :: (0x05 : UInt8) :: (0x73 : UInt8) :: (0x2b : UInt8) :: (0xb6 : UInt8) :: (0x00 : UInt8) :: (0x59 : UInt8) :: dT_L_law_49
def dT_L_law_47 : List UInt8 := (0x05 : UInt8) :: (0x8d : UInt8) :: (0x2b : UInt8) :: (0xb6 : UInt8) :: (0x00 : UInt8) :: (0x51 : UInt8) :: (0x57 : UInt8) :: (0x2c : UInt8) :: (0xb6 : UInt8) :: (0x00 : UInt8) :: (0x54 : UInt8) :: (0x57 : UInt8) :: (0xa7 : UInt8) :: (0x05 : UInt8) :: (0x80 : UInt8) :: (0x2b : UInt8) :: dT_L_law_48
def dT_L_law_46 : List UInt8 := (0x2e : UInt8) :: (0xb6 : UInt8) :: (0x00 : UInt8) :: (0x4d : UInt8) :: (0x57 : UInt8) :: (0x2c : UInt8) :: (0x2a : UInt8) :: (0x1d : UInt8) :: (0x04 : UInt8) :: (0x60 : UInt8) :: (0x2e : UInt8) :: (0xb6 : UInt8) :: (0x00 : UInt8) :: (0x50 : UInt8) :: (0x57 : UInt8) :: (0xa7 : UInt8) :: dT_L_law_47
def dT_L_law_45 : List UInt8 := (0x1d : UInt8) :: (0x04 : UInt8) :: (0x60 : UInt8) :: (0x2e : UInt8) :: (0xb6 : UInt8) :: (0x00 : UInt8) :: (0x4c : UInt8) :: (0x57 : UInt8) :: (0xa7 : UInt8) :: (0x05 : UInt8) :: (0xa4 : UInt8) :: (0x2b : UInt8) :: (0x2a : UInt8) :: (0x1d : UInt8) :: (0x04 : UInt8) :: (0x60 : UInt8) :: dT_L_law_46
def dT_L_law_44 : List UInt8 := (0x57 : UInt8) :: (0xa7 : UInt8) :: (0x05 : UInt8) :: (0xbb : UInt8) :: (0x2b : UInt8) :: (0x2a : UInt8) :: (0x1d : UInt8) :: (0x04 : UInt8) :: (0x60 : UInt8) :: (0x2e : UInt8) :: (0xb6 : UInt8) :: (0x00 : UInt8) :: (0x49 : UInt8) :: (0x57 : UInt8) :: (0x2c : UInt8) :: (0x2a : UInt8) :: dT_L_law_45
def dT_L_law_43 : List UInt8 := (0x04 : UInt8) :: (0x60 : UInt8) :: (0x2e : UInt8) :: (0xb6 : UInt8) :: (0x00 : UInt8) :: (0x45 : UInt8) :: (0x57 : UInt8) :: (0x2c : UInt8) :: (0x2a : UInt8) :: (0x1d : UInt8) :: (0x04 : UInt8) :: (0x60 : UInt8) :: (0x2e : UInt8) :: (0xb6 : UInt8) :: (0x00 : UInt8) :: (0x48 : UInt8) :: dT_L_law_44
def dT_L_law_42 : List UInt8 := (0x2e : UInt8) :: (0x2a : UInt8) :: (0x1d : UInt8) :: (0x05 : UInt8) :: (0x60 : UInt8) :: (0x2e : UInt8) :: (0xb6 : UInt8) :: (0x00 : UInt8) :: (0x44 : UInt8) :: (0x57 : UInt8) :: (0xa7 : UInt8) :: (0x05 : UInt8) :: (0xd2 : UInt8) :: (0x2b : UInt8) :: (0x2a : UInt8) :: (0x1d : UInt8) :: dT_L_law_43
def dT_L_law_41 : List UInt8 := (0x60 : UInt8) :: (0x2e : UInt8) :: (0x2a : UInt8) :: (0x1d : UInt8) :: (0x05 : UInt8) :: (0x60 : UInt8) :: (0x2e : UInt8) :: (0xb6 : UInt8) :: (0x00 : UInt8) :: (0x41 : UInt8) :: (0x57 : UInt8) :: (0x2c : UInt8) :: (0x2a : UInt8) :: (0x1d : UInt8) :: (0x04 : UInt8) :: (0x60 : UInt8) :: dT_L_law_42
def dT_L_law_40 : List UInt8 := (0x2a : UInt8) :: (0x1d : UInt8) :: (0x04 : UInt8) :: (0x60 : UInt8) :: (0x2e : UInt8) :: (0xb6 : UInt8) :: (0x00 : UInt8) :: (0x40 : UInt8) :: (0x57 : UInt8) :: (0xa7 : UInt8) :: (0x05 : UInt8) :: (0xf3 : UInt8) :: (0x2b : UInt8) :: (0x2a : UInt8) :: (0x1d : UInt8) :: (0x04 : UInt8) :: dT_L_law_41
def dT_L_law_39 : List UInt8 := (0x3c : UInt8) :: (0x57 : UInt8) :: (0xa7 : UInt8) :: (0x06 : UInt8) :: (0x0a : UInt8) :: (0x2b : UInt8) :: (0x2a : UInt8) :: (0x1d : UInt8) :: (0x04 : UInt8) :: (0x60 : UInt8) :: (0x2e : UInt8) :: (0xb6 : UInt8) :: (0x00 : UInt8) :: (0x3d : UInt8) :: (0x57 : UInt8) :: (0x2c : UInt8) :: dT_L_law_40
def dT_L_law_38 : List UInt8 := (0x2e : UInt8) :: (0xb6 : UInt8) :: (0x00 : UInt8) :: (0x38 : UInt8) :: (0x57 : UInt8) :: (0xa7 : UInt8) :: (0x06 : UInt8) :: (0x17 : UInt8) :: (0x2b : UInt8) :: (0xb6 : UInt8) :: (0x00 : UInt8) :: (0x39 : UInt8) :: (0x57 : UInt8) :: (0x2c : UInt8) :: (0xb6 : UInt8) :: (0x00 : UInt8) :: dT_L_law_39
def dT_L_law_37 : List UInt8 := (0x2e : UInt8) :: (0x2b : UInt8) :: (0x2a : UInt8) :: (0x1d : UInt8) :: (0x04 : UInt8) :: (0x60 : UInt8) :: (0x2e : UInt8) :: (0xb6 : UInt8) :: (0x00 : UInt8) :: (0x35 : UInt8) :: (0x57 : UInt8) :: (0x2c : UInt8) :: (0x2a : UInt8) :: (0x1d : UInt8) :: (0x04 : UInt8) :: (0x60 : UInt8) :: dT_L_law_38
def dT_L_law_36 : List UInt8 := (0xb6 : UInt8) :: (0x00 : UInt8) :: (0x31 : UInt8) :: (0x57 : UInt8) :: (0x2c : UInt8) :: (0x2a : UInt8) :: (0x1d : UInt8) :: (0x04 : UInt8) :: (0x60 : UInt8) :: (0x2e : UInt8) :: (0xb6 : UInt8) :: (0x00 : UInt8) :: (0x34 : UInt8) :: (0x57 : UInt8) :: (0xa7 : UInt8) :: (0x06 : UInt8) :: dT_L_law_37
def dT_L_law_35 : List UInt8 := (0x04 : UInt8) :: (0x60 : UInt8) :: (0x2e : UInt8) :: (0xb6 : UInt8) :: (0x00 : UInt8) :: (0x30 : UInt8) :: (0x57 : UInt8) :: (0xa7 : UInt8) :: (0x06 : UInt8) :: (0x45 : UInt8) :: (0x2b : UInt8) :: (0x2a : UInt8) :: (0x1d : UInt8) :: (0x04 : UInt8) :: (0x60 : UInt8) :: (0x2e : UInt8) :: dT_L_law_36
def dT_L_law_34 : List UInt8 := (0xa7 : UInt8) :: (0x06 : UInt8) :: (0x5c : UInt8) :: (0x2b : UInt8) :: (0x2a : UInt8) :: (0x1d : UInt8) :: (0x04 : UInt8) :: (0x60 : UInt8) :: (0x2e : UInt8) :: (0xb6 : UInt8) :: (0x00 : UInt8) :: (0x2d : UInt8) :: (0x57 : UInt8) :: (0x2c : UInt8) :: (0x2a : UInt8) :: (0x1d : UInt8) :: dT_L_law_35
def dT_L_law_33 : List UInt8 := (0x60 : UInt8) :: (0x2e : UInt8) :: (0xb6 : UInt8) :: (0x00 : UInt8) :: (0x29 : UInt8) :: (0x57 : UInt8) :: (0x2c : UInt8) :: (0x2a : UInt8) :: (0x1d : UInt8) :: (0x04 : UInt8) :: (0x60 : UInt8) :: (0x2e : UInt8) :: (0xb6 : UInt8) :: (0x00 : UInt8) :: (0x2c : UInt8) :: (0x57 : UInt8) :: dT_L_law_34
def dT_L_law_32 : List UInt8 := (0x2a : UInt8) :: (0x1d : UInt8) :: (0x05 : UInt8) :: (0x60 : UInt8) :: (0x2e : UInt8) :: (0xb6 : UInt8) :: (0x00 : UInt8) :: (0x28 : UInt8) :: (0x57 : UInt8) :: (0xa7 : UInt8) :: (0x06 : UInt8) :: (0x73 : UInt8) :: (0x2b : UInt8) :: (0x2a : UInt8) :: (0x1d : UInt8) :: (0x04 : UInt8) :: dT_L_law_33
def dT_L_law_31 : List UInt8 := (0x2e : UInt8) :: (0x2a : UInt8) :: (0x1d : UInt8) :: (0x05 : UInt8) :: (0x60 : UInt8) :: (0x2e : UInt8) :: (0xb6 : UInt8) :: (0x00 : UInt8) :: (0x25 : UInt8) :: (0x57 : UInt8) :: (0x2c : UInt8) :: (0x2a : UInt8) :: (0x1d : UInt8) :: (0x04 : UInt8) :: (0x60 : UInt8) :: (0x2e : UInt8) :: dT_L_law_32
def dT_L_law_30 : List UInt8 := (0x1d : UInt8) :: (0x05 : UInt8) :: (0x60 : UInt8) :: (0x2e : UInt8) :: (0xb6 : UInt8) :: (0x00 : UInt8) :: (0x24 : UInt8) :: (0x57 : UInt8) :: (0xa7 : UInt8) :: (0x06 : UInt8) :: (0x94 : UInt8) :: (0x2b : UInt8) :: (0x2a : UInt8) :: (0x1d : UInt8) :: (0x04 : UInt8) :: (0x60 : UInt8) :: dT_L_law_31
def dT_L_law_29 : List UInt8 := (0x2a : UInt8) :: (0x1d : UInt8) :: (0x05 : UInt8) :: (0x60 : UInt8) :: (0x2e : UInt8) :: (0xb6 : UInt8) :: (0x00 : UInt8) :: (0x20 : UInt8) :: (0x57 : UInt8) :: (0x2c : UInt8) :: (0x2a : UInt8) :: (0x1d : UInt8) :: (0x04 : UInt8) :: (0x60 : UInt8) :: (0x2e : UInt8) :: (0x2a : UInt8) :: dT_L_law_30
def dT_L_law_28 : List UInt8 := (0x04 : UInt8) :: (0x60 : UInt8) :: (0x2e : UInt8) :: (0xb6 : UInt8) :: (0x00 : UInt8) :: (0x1f : UInt8) :: (0x57 : UInt8) :: (0xa7 : UInt8) :: (0x06 : UInt8) :: (0xb5 : UInt8) :: (0x2b : UInt8) :: (0x2a : UInt8) :: (0x1d : UInt8) :: (0x04 : UInt8) :: (0x60 : UInt8) :: (0x2e : UInt8) :: dT_L_law_29
def dT_L_law_27 : List UInt8 := (0xa7 : UInt8) :: (0x06 : UInt8) :: (0xcc : UInt8) :: (0x2b : UInt8) :: (0x2a : UInt8) :: (0x1d : UInt8) :: (0x04 : UInt8) :: (0x60 : UInt8) :: (0x2e : UInt8) :: (0xb6 : UInt8) :: (0x00 : UInt8) :: (0x1c : UInt8) :: (0x57 : UInt8) :: (0x2c : UInt8) :: (0x2a : UInt8) :: (0x1d : UInt8) :: dT_L_law_28
def dT_L_law_26 : List UInt8 := (0x00 : UInt8) :: (0x16 : UInt8) :: (0x57 : UInt8) :: (0xa7 : UInt8) :: (0x06 : UInt8) :: (0xd9 : UInt8) :: (0x2b : UInt8) :: (0xb6 : UInt8) :: (0x00 : UInt8) :: (0x17 : UInt8) :: (0x57 : UInt8) :: (0x2c : UInt8) :: (0xb6 : UInt8) :: (0x00 : UInt8) :: (0x1b : UInt8) :: (0x57 : UInt8) :: dT_L_law_27
def dT_L_law_25 : List UInt8 := (0x2a : UInt8) :: (0x1d : UInt8) :: (0x04 : UInt8) :: (0x60 : UInt8) :: (0x2e : UInt8) :: (0xb6 : UInt8) :: (0x00 : UInt8) :: (0x12 : UInt8) :: (0x57 : UInt8) :: (0x2c : UInt8) :: (0x2a : UInt8) :: (0x1d : UInt8) :: (0x04 : UInt8) :: (0x60 : UInt8) :: (0x2e : UInt8) :: (0xb6 : UInt8) :: dT_L_law_26
def dT_L_law_24 : List UInt8 := (0x07 : UInt8) :: (0x60 : UInt8) :: (0x2e : UInt8) :: (0x2a : UInt8) :: (0x1d : UInt8) :: (0x08 : UInt8) :: (0x60 : UInt8) :: (0x2e : UInt8) :: (0xb6 : UInt8) :: (0x00 : UInt8) :: (0x11 : UInt8) :: (0x57 : UInt8) :: (0xa7 : UInt8) :: (0x06 : UInt8) :: (0xf0 : UInt8) :: (0x2b : UInt8) :: dT_L_law_25
def dT_L_law_23 : List UInt8 := (0x1d : UInt8) :: (0x04 : UInt8) :: (0x60 : UInt8) :: (0x2e : UInt8) :: (0x2a : UInt8) :: (0x1d : UInt8) :: (0x05 : UInt8) :: (0x60 : UInt8) :: (0x2e : UInt8) :: (0x2a : UInt8) :: (0x1d : UInt8) :: (0x06 : UInt8) :: (0x60 : UInt8) :: (0x2e : UInt8) :: (0x2a : UInt8) :: (0x1d : UInt8) :: dT_L_law_24
def dT_L_law_22 : List UInt8 := (0x2a : UInt8) :: (0x1d : UInt8) :: (0x07 : UInt8) :: (0x60 : UInt8) :: (0x2e : UInt8) :: (0x2a : UInt8) :: (0x1d : UInt8) :: (0x08 : UInt8) :: (0x60 : UInt8) :: (0x2e : UInt8) :: (0xb6 : UInt8) :: (0x00 : UInt8) :: (0x0d : UInt8) :: (0x57 : UInt8) :: (0x2c : UInt8) :: (0x2a : UInt8) :: dT_L_law_23
def dT_L_law_21 : List UInt8 := (0x2b : UInt8) :: (0x2a : UInt8) :: (0x1d : UInt8) :: (0x04 : UInt8) :: (0x60 : UInt8) :: (0x2e : UInt8) :: (0x2a : UInt8) :: (0x1d : UInt8) :: (0x05 : UInt8) :: (0x60 : UInt8) :: (0x2e : UInt8) :: (0x2a : UInt8) :: (0x1d : UInt8) :: (0x06 : UInt8) :: (0x60 : UInt8) :: (0x2e : UInt8) :: dT_L_law_22
def dT_L_law_20 : List UInt8 := (0x00 : UInt8) :: (0x00 : UInt8) :: (0x07 : UInt8) :: (0x91 : UInt8) :: (0x00 : UInt8) :: (0x00 : UInt8) :: (0x07 : UInt8) :: (0xa8 : UInt8) :: (0x00 : UInt8) :: (0x00 : UInt8) :: (0x07 : UInt8) :: (0xd3 : UInt8) :: (0x00 : UInt8) :: (0x00 : UInt8) :: (0x08 : UInt8) :: (0x1c : UInt8) :: dT_L_law_21
def dT_L_law_19 : List UInt8 := (0x00 : UInt8) :: (0x00 : UInt8) :: (0x07 : UInt8) :: (0x17 : UInt8) :: (0x00 : UInt8) :: (0x00 : UInt8) :: (0x07 : UInt8) :: (0x42 : UInt8) :: (0x00 : UInt8) :: (0x00 : UInt8) :: (0x07 : UInt8) :: (0x63 : UInt8) :: (0x00 : UInt8) :: (0x00 : UInt8) :: (0x07 : UInt8) :: (0x7a : UInt8) :: dT_L_law_20
def dT_L_law_18 : List UInt8 := (0x00 : UInt8) :: (0x00 : UInt8) :: (0x06 : UInt8) :: (0xbb : UInt8) :: (0x00 : UInt8) :: (0x00 : UInt8) :: (0x06 : UInt8) :: (0xdc : UInt8) :: (0x00 : UInt8) :: (0x00 : UInt8) :: (0x06 : UInt8) :: (0xe9 : UInt8) :: (0x00 : UInt8) :: (0x00 : UInt8) :: (0x06 : UInt8) :: (0xf6 : UInt8) :: dT_L_law_19
def dT_L_law_17 : List UInt8 := (0x00 : UInt8) :: (0x00 : UInt8) :: (0x06 : UInt8) :: (0x23 : UInt8) :: (0x00 : UInt8) :: (0x00 : UInt8) :: (0x06 : UInt8) :: (0x4e : UInt8) :: (0x00 : UInt8) :: (0x00 : UInt8) :: (0x06 : UInt8) :: (0x79 : UInt8) :: (0x00 : UInt8) :: (0x00 : UInt8) :: (0x06 : UInt8) :: (0x9a : UInt8) :: dT_L_law_18
def dT_L_law_16 : List UInt8 := (0x00 : UInt8) :: (0x00 : UInt8) :: (0x05 : UInt8) :: (0xa9 : UInt8) :: (0x00 : UInt8) :: (0x00 : UInt8) :: (0x05 : UInt8) :: (0xca : UInt8) :: (0x00 : UInt8) :: (0x00 : UInt8) :: (0x05 : UInt8) :: (0xff : UInt8) :: (0x00 : UInt8) :: (0x00 : UInt8) :: (0x06 : UInt8) :: (0x16 : UInt8) :: dT_L_law_17
def dT_L_law_15 : List UInt8 := (0x00 : UInt8) :: (0x00 : UInt8) :: (0x05 : UInt8) :: (0x4d : UInt8) :: (0x00 : UInt8) :: (0x00 : UInt8) :: (0x05 : UInt8) :: (0x64 : UInt8) :: (0x00 : UInt8) :: (0x00 : UInt8) :: (0x05 : UInt8) :: (0x7b : UInt8) :: (0x00 : UInt8) :: (0x00 : UInt8) :: (0x05 : UInt8) :: (0x92 : UInt8) :: dT_L_law_16
def dT_L_law_14 : List UInt8 := (0x00 : UInt8) :: (0x00 : UInt8) :: (0x04 : UInt8) :: (0xf1 : UInt8) :: (0x00 : UInt8) :: (0x00 : UInt8) :: (0x05 : UInt8) :: (0x08 : UInt8) :: (0x00 : UInt8) :: (0x00 : UInt8) :: (0x05 : UInt8) :: (0x1f : UInt8) :: (0x00 : UInt8) :: (0x00 : UInt8) :: (0x05 : UInt8) :: (0x36 : UInt8) :: dT_L_law_15
def dT_L_law_13 : List UInt8 := (0x00 : UInt8) :: (0x00 : UInt8) :: (0x04 : UInt8) :: (0x95 : UInt8) :: (0x00 : UInt8) :: (0x00 : UInt8) :: (0x04 : UInt8) :: (0xac : UInt8) :: (0x00 : UInt8) :: (0x00 : UInt8) :: (0x04 : UInt8) :: (0xc3 : UInt8) :: (0x00 : UInt8) :: (0x00 : UInt8) :: (0x04 : UInt8) :: (0xda : UInt8) :: dT_L_law_14
def dT_L_law_12 : List UInt8 := (0x00 : UInt8) :: (0x00 : UInt8) :: (0x04 : UInt8) :: (0x57 : UInt8) :: (0x00 : UInt8) :: (0x00 : UInt8) :: (0x04 : UInt8) :: (0x64 : UInt8) :: (0x00 : UInt8) :: (0x00 : UInt8) :: (0x04 : UInt8) :: (0x71 : UInt8) :: (0x00 : UInt8) :: (0x00 : UInt8) :: (0x04 : UInt8) :: (0x88 : UInt8) :: dT_L_law_13
def dT_L_law_11 : List UInt8 := (0x00 : UInt8) :: (0x00 : UInt8) :: (0x04 : UInt8) :: (0x0f : UInt8) :: (0x00 : UInt8) :: (0x00 : UInt8) :: (0x04 : UInt8) :: (0x26 : UInt8) :: (0x00 : UInt8) :: (0x00 : UInt8) :: (0x04 : UInt8) :: (0x33 : UInt8) :: (0x00 : UInt8) :: (0x00 : UInt8) :: (0x04 : UInt8) :: (0x4a : UInt8) :: dT_L_law_12
def dT_L_law_10 : List UInt8 := (0x00 : UInt8) :: (0x00 : UInt8) :: (0x03 : UInt8) :: (0xbd : UInt8) :: (0x00 : UInt8) :: (0x00 : UInt8) :: (0x03 : UInt8) :: (0xca : UInt8) :: (0x00 : UInt8) :: (0x00 : UInt8) :: (0x03 : UInt8) :: (0xe1 : UInt8) :: (0x00 : UInt8) :: (0x00 : UInt8) :: (0x03 : UInt8) :: (0xf8 : UInt8) :: dT_L_law_11
def dT_L_law_9 : List UInt8 := (0x00 : UInt8) :: (0x00 : UInt8) :: (0x03 : UInt8) :: (0x6b : UInt8) :: (0x00 : UInt8) :: (0x00 : UInt8) :: (0x03 : UInt8) :: (0x82 : UInt8) :: (0x00 : UInt8) :: (0x00 : UInt8) :: (0x03 : UInt8) :: (0x8f : UInt8) :: (0x00 : UInt8) :: (0x00 : UInt8) :: (0x03 : UInt8) :: (0xa6 : UInt8) :: dT_L_law_10
def dT_L_law_8 : List UInt8 := (0x00 : UInt8) :: (0x00 : UInt8) :: (0x03 : UInt8) :: (0x0f : UInt8) :: (0x00 : UInt8) :: (0x00 : UInt8) :: (0x03 : UInt8) :: (0x30 : UInt8) :: (0x00 : UInt8) :: (0x00 : UInt8) :: (0x03 : UInt8) :: (0x47 : UInt8) :: (0x00 : UInt8) :: (0x00 : UInt8) :: (0x03 : UInt8) :: (0x54 : UInt8) :: dT_L_law_9
def dT_L_law_7 : List UInt8 := (0x00 : UInt8) :: (0x00 : UInt8) :: (0x02 : UInt8) :: (0xd1 : UInt8) :: (0x00 : UInt8) :: (0x00 : UInt8) :: (0x02 : UInt8) :: (0xde : UInt8) :: (0x00 : UInt8) :: (0x00 : UInt8) :: (0x02 : UInt8) :: (0xeb : UInt8) :: (0x00 : UInt8) :: (0x00 : UInt8) :: (0x02 : UInt8) :: (0xf8 : UInt8) :: dT_L_law_8
def dT_L_law_6 : List UInt8 := (0x00 : UInt8) :: (0x00 : UInt8) :: (0x02 : UInt8) :: (0x6b : UInt8) :: (0x00 : UInt8) :: (0x00 : UInt8) :: (0x02 : UInt8) :: (0x8c : UInt8) :: (0x00 : UInt8) :: (0x00 : UInt8) :: (0x02 : UInt8) :: (0xa3 : UInt8) :: (0x00 : UInt8) :: (0x00 : UInt8) :: (0x02 : UInt8) :: (0xba : UInt8) :: dT_L_law_7
def dT_L_law_5 : List UInt8 := (0x00 : UInt8) :: (0x00 : UInt8) :: (0x02 : UInt8) :: (0x19 : UInt8) :: (0x00 : UInt8) :: (0x00 : UInt8) :: (0x02 : UInt8) :: (0x30 : UInt8) :: (0x00 : UInt8) :: (0x00 : UInt8) :: (0x02 : UInt8) :: (0x47 : UInt8) :: (0x00 : UInt8) :: (0x00 : UInt8) :: (0x02 : UInt8) :: (0x54 : UInt8) :: dT_L_law_6
def dT_L_law_4 : List UInt8 := (0x00 : UInt8) :: (0x00 : UInt8) :: (0x01 : UInt8) :: (0xa9 : UInt8) :: (0x00 : UInt8) :: (0x00 : UInt8) :: (0x01 : UInt8) :: (0xca : UInt8) :: (0x00 : UInt8) :: (0x00 : UInt8) :: (0x01 : UInt8) :: (0xeb : UInt8) :: (0x00 : UInt8) :: (0x00 : UInt8) :: (0x02 : UInt8) :: (0x02 : UInt8) :: dT_L_law_5
def dT_L_law_3 : List UInt8 := (0x00 : UInt8) :: (0x00 : UInt8) :: (0x01 : UInt8) :: (0x2f : UInt8) :: (0x00 : UInt8) :: (0x00 : UInt8) :: (0x01 : UInt8) :: (0x6e : UInt8) :: (0x00 : UInt8) :: (0x00 : UInt8) :: (0x01 : UInt8) :: (0x85 : UInt8) :: (0x00 : UInt8) :: (0x00 : UInt8) :: (0x01 : UInt8) :: (0x92 : UInt8) :: dT_L_law_4
def dT_L_law_2 : List UInt8 := (0x7e : UInt8) :: (0xaa : UInt8) :: (0x00 : UInt8) :: (0x00 : UInt8) :: (0x00 : UInt8) :: (0x00 : UInt8) :: (0x08 : UInt8) :: (0x5b : UInt8) :: (0x00 : UInt8) :: (0x00 : UInt8) :: (0x00 : UInt8) :: (0x00 : UInt8) :: (0x00 : UInt8) :: (0x00 : UInt8) :: (0x00 : UInt8) :: (0x47 : UInt8) :: dT_L_law_3
def dT_L_law_1 : List UInt8 := (0x03 : UInt8) :: (0x3e : UInt8) :: (0x1d : UInt8) :: (0x2a : UInt8) :: (0xbe : UInt8) :: (0x10 : UInt8) :: (0x06 : UInt8) :: (0x64 : UInt8) :: (0xa3 : UInt8) :: (0x08 : UInt8) :: (0x6a : UInt8) :: (0x2a : UInt8) :: (0x1d : UInt8) :: (0x2e : UInt8) :: (0x10 : UInt8) :: (0x7f : UInt8) :: dT_L_law_2
def dT_L_law_0 : List UInt8 := (0xbb : UInt8) :: (0x00 : UInt8) :: (0x07 : UInt8) :: (0x59 : UInt8) :: (0xb7 : UInt8) :: (0x00 : UInt8) :: (0x09 : UInt8) :: (0x4c : UInt8) :: (0xbb : UInt8) :: (0x00 : UInt8) :: (0x0a : UInt8) :: (0x59 : UInt8) :: (0xb7 : UInt8) :: (0x00 : UInt8) :: (0x0c : UInt8) :: (0x4d : UInt8) :: dT_L_law_1
theorem dT_L_law : cL_law.data.toList = dT_L_law_0 := eq_of_beq (show (cL_law.data.toList == dT_L_law_0) = true by decide +kernel)
theorem dQ_L_law_0 : dQ_P cL_law 0 dT_L_law_0 := fun i => by rw [dT_L_law]; rfl
theorem dQ_L_law_1 : dQ_P cL_law 16 dT_L_law_1 := fun i => (dQ_L_law_0 (i + 16)).trans dk_t
theorem dQ_L_law_2 : dQ_P cL_law 32 dT_L_law_2 := fun i => (dQ_L_law_1 (i + 16)).trans dk_t
theorem dQ_L_law_3 : dQ_P cL_law 48 dT_L_law_3 := fun i => (dQ_L_law_2 (i + 16)).trans dk_t
theorem dQ_L_law_4 : dQ_P cL_law 64 dT_L_law_4 := fun i => (dQ_L_law_3 (i + 16)).trans dk_t
theorem dQ_L_law_5 : dQ_P cL_law 80 dT_L_law_5 := fun i => (dQ_L_law_4 (i + 16)).trans dk_t
theorem dQ_L_law_6 : dQ_P cL_law 96 dT_L_law_6 := fun i => (dQ_L_law_5 (i + 16)).trans dk_t
theorem dQ_L_law_7 : dQ_P cL_law 112 dT_L_law_7 := fun i => (dQ_L_law_6 (i + 16)).trans dk_t
theorem dQ_L_law_8 : dQ_P cL_law 128 dT_L_law_8 := fun i => (dQ_L_law_7 (i + 16)).trans dk_t
theorem dQ_L_law_9 : dQ_P cL_law 144 dT_L_law_9 := fun i => (dQ_L_law_8 (i + 16)).trans dk_t
theorem dQ_L_law_10 : dQ_P cL_law 160 dT_L_law_10 := fun i => (dQ_L_law_9 (i + 16)).trans dk_t
theorem dQ_L_law_11 : dQ_P cL_law 176 dT_L_law_11 := fun i => (dQ_L_law_10 (i + 16)).trans dk_t
theorem dQ_L_law_12 : dQ_P cL_law 192 dT_L_law_12 := fun i => (dQ_L_law_11 (i + 16)).trans dk_t
theorem dQ_L_law_13 : dQ_P cL_law 208 dT_L_law_13 := fun i => (dQ_L_law_12 (i + 16)).trans dk_t
theorem dQ_L_law_14 : dQ_P cL_law 224 dT_L_law_14 := fun i => (dQ_L_law_13 (i + 16)).trans dk_t
theorem dQ_L_law_15 : dQ_P cL_law 240 dT_L_law_15 := fun i => (dQ_L_law_14 (i + 16)).trans dk_t
theorem dQ_L_law_16 : dQ_P cL_law 256 dT_L_law_16 := fun i => (dQ_L_law_15 (i + 16)).trans dk_t
theorem dQ_L_law_17 : dQ_P cL_law 272 dT_L_law_17 := fun i => (dQ_L_law_16 (i + 16)).trans dk_t
theorem dQ_L_law_18 : dQ_P cL_law 288 dT_L_law_18 := fun i => (dQ_L_law_17 (i + 16)).trans dk_t
theorem dQ_L_law_19 : dQ_P cL_law 304 dT_L_law_19 := fun i => (dQ_L_law_18 (i + 16)).trans dk_t
theorem dQ_L_law_20 : dQ_P cL_law 320 dT_L_law_20 := fun i => (dQ_L_law_19 (i + 16)).trans dk_t
theorem dQ_L_law_21 : dQ_P cL_law 336 dT_L_law_21 := fun i => (dQ_L_law_20 (i + 16)).trans dk_t
theorem dQ_L_law_22 : dQ_P cL_law 352 dT_L_law_22 := fun i => (dQ_L_law_21 (i + 16)).trans dk_t
theorem dQ_L_law_23 : dQ_P cL_law 368 dT_L_law_23 := fun i => (dQ_L_law_22 (i + 16)).trans dk_t
theorem dQ_L_law_24 : dQ_P cL_law 384 dT_L_law_24 := fun i => (dQ_L_law_23 (i + 16)).trans dk_t
theorem dQ_L_law_25 : dQ_P cL_law 400 dT_L_law_25 := fun i => (dQ_L_law_24 (i + 16)).trans dk_t
theorem dQ_L_law_26 : dQ_P cL_law 416 dT_L_law_26 := fun i => (dQ_L_law_25 (i + 16)).trans dk_t
theorem dQ_L_law_27 : dQ_P cL_law 432 dT_L_law_27 := fun i => (dQ_L_law_26 (i + 16)).trans dk_t
theorem dQ_L_law_28 : dQ_P cL_law 448 dT_L_law_28 := fun i => (dQ_L_law_27 (i + 16)).trans dk_t
theorem dQ_L_law_29 : dQ_P cL_law 464 dT_L_law_29 := fun i => (dQ_L_law_28 (i + 16)).trans dk_t
theorem dQ_L_law_30 : dQ_P cL_law 480 dT_L_law_30 := fun i => (dQ_L_law_29 (i + 16)).trans dk_t
theorem dQ_L_law_31 : dQ_P cL_law 496 dT_L_law_31 := fun i => (dQ_L_law_30 (i + 16)).trans dk_t
theorem dQ_L_law_32 : dQ_P cL_law 512 dT_L_law_32 := fun i => (dQ_L_law_31 (i + 16)).trans dk_t
theorem dQ_L_law_33 : dQ_P cL_law 528 dT_L_law_33 := fun i => (dQ_L_law_32 (i + 16)).trans dk_t
theorem dQ_L_law_34 : dQ_P cL_law 544 dT_L_law_34 := fun i => (dQ_L_law_33 (i + 16)).trans dk_t
theorem dQ_L_law_35 : dQ_P cL_law 560 dT_L_law_35 := fun i => (dQ_L_law_34 (i + 16)).trans dk_t
theorem dQ_L_law_36 : dQ_P cL_law 576 dT_L_law_36 := fun i => (dQ_L_law_35 (i + 16)).trans dk_t
theorem dQ_L_law_37 : dQ_P cL_law 592 dT_L_law_37 := fun i => (dQ_L_law_36 (i + 16)).trans dk_t
theorem dQ_L_law_38 : dQ_P cL_law 608 dT_L_law_38 := fun i => (dQ_L_law_37 (i + 16)).trans dk_t
theorem dQ_L_law_39 : dQ_P cL_law 624 dT_L_law_39 := fun i => (dQ_L_law_38 (i + 16)).trans dk_t
theorem dQ_L_law_40 : dQ_P cL_law 640 dT_L_law_40 := fun i => (dQ_L_law_39 (i + 16)).trans dk_t
theorem dQ_L_law_41 : dQ_P cL_law 656 dT_L_law_41 := fun i => (dQ_L_law_40 (i + 16)).trans dk_t
theorem dQ_L_law_42 : dQ_P cL_law 672 dT_L_law_42 := fun i => (dQ_L_law_41 (i + 16)).trans dk_t
theorem dQ_L_law_43 : dQ_P cL_law 688 dT_L_law_43 := fun i => (dQ_L_law_42 (i + 16)).trans dk_t
theorem dQ_L_law_44 : dQ_P cL_law 704 dT_L_law_44 := fun i => (dQ_L_law_43 (i + 16)).trans dk_t
theorem dQ_L_law_45 : dQ_P cL_law 720 dT_L_law_45 := fun i => (dQ_L_law_44 (i + 16)).trans dk_t
theorem dQ_L_law_46 : dQ_P cL_law 736 dT_L_law_46 := fun i => (dQ_L_law_45 (i + 16)).trans dk_t
theorem dQ_L_law_47 : dQ_P cL_law 752 dT_L_law_47 := fun i => (dQ_L_law_46 (i + 16)).trans dk_t
theorem dQ_L_law_48 : dQ_P cL_law 768 dT_L_law_48 := fun i => (dQ_L_law_47 (i + 16)).trans dk_t
theorem dQ_L_law_49 : dQ_P cL_law 784 dT_L_law_49 := fun i => (dQ_L_law_48 (i + 16)).trans dk_t
theorem dQ_L_law_50 : dQ_P cL_law 800 dT_L_law_50 := fun i => (dQ_L_law_49 (i + 16)).trans dk_t
theorem dQ_L_law_51 : dQ_P cL_law 816 dT_L_law_51 := fun i => (dQ_L_law_50 (i + 16)).trans dk_t
theorem dQ_L_law_52 : dQ_P cL_law 832 dT_L_law_52 := fun i => (dQ_L_law_51 (i + 16)).trans dk_t
theorem dQ_L_law_53 : dQ_P cL_law 848 dT_L_law_53 := fun i => (dQ_L_law_52 (i + 16)).trans dk_t
theorem dQ_L_law_54 : dQ_P cL_law 864 dT_L_law_54 := fun i => (dQ_L_law_53 (i + 16)).trans dk_t
theorem dQ_L_law_55 : dQ_P cL_law 880 dT_L_law_55 := fun i => (dQ_L_law_54 (i + 16)).trans dk_t
theorem dQ_L_law_56 : dQ_P cL_law 896 dT_L_law_56 := fun i => (dQ_L_law_55 (i + 16)).trans dk_t
theorem dQ_L_law_57 : dQ_P cL_law 912 dT_L_law_57 := fun i => (dQ_L_law_56 (i + 16)).trans dk_t
theorem dQ_L_law_58 : dQ_P cL_law 928 dT_L_law_58 := fun i => (dQ_L_law_57 (i + 16)).trans dk_t
theorem dQ_L_law_59 : dQ_P cL_law 944 dT_L_law_59 := fun i => (dQ_L_law_58 (i + 16)).trans dk_t
theorem dQ_L_law_60 : dQ_P cL_law 960 dT_L_law_60 := fun i => (dQ_L_law_59 (i + 16)).trans dk_t
theorem dQ_L_law_61 : dQ_P cL_law 976 dT_L_law_61 := fun i => (dQ_L_law_60 (i + 16)).trans dk_t
theorem dQ_L_law_62 : dQ_P cL_law 992 dT_L_law_62 := fun i => (dQ_L_law_61 (i + 16)).trans dk_t
theorem dQ_L_law_63 : dQ_P cL_law 1008 dT_L_law_63 := fun i => (dQ_L_law_62 (i + 16)).trans dk_t
theorem dQ_L_law_64 : dQ_P cL_law 1024 dT_L_law_64 := fun i => (dQ_L_law_63 (i + 16)).trans dk_t
theorem dQ_L_law_65 : dQ_P cL_law 1040 dT_L_law_65 := fun i => (dQ_L_law_64 (i + 16)).trans dk_t
theorem dQ_L_law_66 : dQ_P cL_law 1056 dT_L_law_66 := fun i => (dQ_L_law_65 (i + 16)).trans dk_t
theorem dQ_L_law_67 : dQ_P cL_law 1072 dT_L_law_67 := fun i => (dQ_L_law_66 (i + 16)).trans dk_t
theorem dQ_L_law_68 : dQ_P cL_law 1088 dT_L_law_68 := fun i => (dQ_L_law_67 (i + 16)).trans dk_t
theorem dQ_L_law_69 : dQ_P cL_law 1104 dT_L_law_69 := fun i => (dQ_L_law_68 (i + 16)).trans dk_t
theorem dQ_L_law_70 : dQ_P cL_law 1120 dT_L_law_70 := fun i => (dQ_L_law_69 (i + 16)).trans dk_t
theorem dQ_L_law_71 : dQ_P cL_law 1136 dT_L_law_71 := fun i => (dQ_L_law_70 (i + 16)).trans dk_t
theorem dQ_L_law_72 : dQ_P cL_law 1152 dT_L_law_72 := fun i => (dQ_L_law_71 (i + 16)).trans dk_t
theorem dQ_L_law_73 : dQ_P cL_law 1168 dT_L_law_73 := fun i => (dQ_L_law_72 (i + 16)).trans dk_t
theorem dQ_L_law_74 : dQ_P cL_law 1184 dT_L_law_74 := fun i => (dQ_L_law_73 (i + 16)).trans dk_t
theorem dQ_L_law_75 : dQ_P cL_law 1200 dT_L_law_75 := fun i => (dQ_L_law_74 (i + 16)).trans dk_t
theorem dQ_L_law_76 : dQ_P cL_law 1216 dT_L_law_76 := fun i => (dQ_L_law_75 (i + 16)).trans dk_t
theorem dQ_L_law_77 : dQ_P cL_law 1232 dT_L_law_77 := fun i => (dQ_L_law_76 (i + 16)).trans dk_t
theorem dQ_L_law_78 : dQ_P cL_law 1248 dT_L_law_78 := fun i => (dQ_L_law_77 (i + 16)).trans dk_t
theorem dQ_L_law_79 : dQ_P cL_law 1264 dT_L_law_79 := fun i => (dQ_L_law_78 (i + 16)).trans dk_t
theorem dQ_L_law_80 : dQ_P cL_law 1280 dT_L_law_80 := fun i => (dQ_L_law_79 (i + 16)).trans dk_t
theorem dQ_L_law_81 : dQ_P cL_law 1296 dT_L_law_81 := fun i => (dQ_L_law_80 (i + 16)).trans dk_t
theorem dQ_L_law_82 : dQ_P cL_law 1312 dT_L_law_82 := fun i => (dQ_L_law_81 (i + 16)).trans dk_t
theorem dQ_L_law_83 : dQ_P cL_law 1328 dT_L_law_83 := fun i => (dQ_L_law_82 (i + 16)).trans dk_t
theorem dQ_L_law_84 : dQ_P cL_law 1344 dT_L_law_84 := fun i => (dQ_L_law_83 (i + 16)).trans dk_t
theorem dQ_L_law_85 : dQ_P cL_law 1360 dT_L_law_85 := fun i => (dQ_L_law_84 (i + 16)).trans dk_t
theorem dQ_L_law_86 : dQ_P cL_law 1376 dT_L_law_86 := fun i => (dQ_L_law_85 (i + 16)).trans dk_t
theorem dQ_L_law_87 : dQ_P cL_law 1392 dT_L_law_87 := fun i => (dQ_L_law_86 (i + 16)).trans dk_t
theorem dQ_L_law_88 : dQ_P cL_law 1408 dT_L_law_88 := fun i => (dQ_L_law_87 (i + 16)).trans dk_t
theorem dQ_L_law_89 : dQ_P cL_law 1424 dT_L_law_89 := fun i => (dQ_L_law_88 (i + 16)).trans dk_t
theorem dQ_L_law_90 : dQ_P cL_law 1440 dT_L_law_90 := fun i => (dQ_L_law_89 (i + 16)).trans dk_t
theorem dQ_L_law_91 : dQ_P cL_law 1456 dT_L_law_91 := fun i => (dQ_L_law_90 (i + 16)).trans dk_t
theorem dQ_L_law_92 : dQ_P cL_law 1472 dT_L_law_92 := fun i => (dQ_L_law_91 (i + 16)).trans dk_t
theorem dQ_L_law_93 : dQ_P cL_law 1488 dT_L_law_93 := fun i => (dQ_L_law_92 (i + 16)).trans dk_t
theorem dQ_L_law_94 : dQ_P cL_law 1504 dT_L_law_94 := fun i => (dQ_L_law_93 (i + 16)).trans dk_t
theorem dQ_L_law_95 : dQ_P cL_law 1520 dT_L_law_95 := fun i => (dQ_L_law_94 (i + 16)).trans dk_t
theorem dQ_L_law_96 : dQ_P cL_law 1536 dT_L_law_96 := fun i => (dQ_L_law_95 (i + 16)).trans dk_t
theorem dQ_L_law_97 : dQ_P cL_law 1552 dT_L_law_97 := fun i => (dQ_L_law_96 (i + 16)).trans dk_t
theorem dQ_L_law_98 : dQ_P cL_law 1568 dT_L_law_98 := fun i => (dQ_L_law_97 (i + 16)).trans dk_t
theorem dQ_L_law_99 : dQ_P cL_law 1584 dT_L_law_99 := fun i => (dQ_L_law_98 (i + 16)).trans dk_t
theorem dQ_L_law_100 : dQ_P cL_law 1600 dT_L_law_100 := fun i => (dQ_L_law_99 (i + 16)).trans dk_t
theorem dQ_L_law_101 : dQ_P cL_law 1616 dT_L_law_101 := fun i => (dQ_L_law_100 (i + 16)).trans dk_t
theorem dQ_L_law_102 : dQ_P cL_law 1632 dT_L_law_102 := fun i => (dQ_L_law_101 (i + 16)).trans dk_t
theorem dQ_L_law_103 : dQ_P cL_law 1648 dT_L_law_103 := fun i => (dQ_L_law_102 (i + 16)).trans dk_t
theorem dQ_L_law_104 : dQ_P cL_law 1664 dT_L_law_104 := fun i => (dQ_L_law_103 (i + 16)).trans dk_t
theorem dQ_L_law_105 : dQ_P cL_law 1680 dT_L_law_105 := fun i => (dQ_L_law_104 (i + 16)).trans dk_t
theorem dQ_L_law_106 : dQ_P cL_law 1696 dT_L_law_106 := fun i => (dQ_L_law_105 (i + 16)).trans dk_t
theorem dQ_L_law_107 : dQ_P cL_law 1712 dT_L_law_107 := fun i => (dQ_L_law_106 (i + 16)).trans dk_t
theorem dQ_L_law_108 : dQ_P cL_law 1728 dT_L_law_108 := fun i => (dQ_L_law_107 (i + 16)).trans dk_t
theorem dQ_L_law_109 : dQ_P cL_law 1744 dT_L_law_109 := fun i => (dQ_L_law_108 (i + 16)).trans dk_t
theorem dQ_L_law_110 : dQ_P cL_law 1760 dT_L_law_110 := fun i => (dQ_L_law_109 (i + 16)).trans dk_t
theorem dQ_L_law_111 : dQ_P cL_law 1776 dT_L_law_111 := fun i => (dQ_L_law_110 (i + 16)).trans dk_t
theorem dQ_L_law_112 : dQ_P cL_law 1792 dT_L_law_112 := fun i => (dQ_L_law_111 (i + 16)).trans dk_t
theorem dQ_L_law_113 : dQ_P cL_law 1808 dT_L_law_113 := fun i => (dQ_L_law_112 (i + 16)).trans dk_t
theorem dQ_L_law_114 : dQ_P cL_law 1824 dT_L_law_114 := fun i => (dQ_L_law_113 (i + 16)).trans dk_t
theorem dQ_L_law_115 : dQ_P cL_law 1840 dT_L_law_115 := fun i => (dQ_L_law_114 (i + 16)).trans dk_t
theorem dQ_L_law_116 : dQ_P cL_law 1856 dT_L_law_116 := fun i => (dQ_L_law_115 (i + 16)).trans dk_t
theorem dQ_L_law_117 : dQ_P cL_law 1872 dT_L_law_117 := fun i => (dQ_L_law_116 (i + 16)).trans dk_t
theorem dQ_L_law_118 : dQ_P cL_law 1888 dT_L_law_118 := fun i => (dQ_L_law_117 (i + 16)).trans dk_t
theorem dQ_L_law_119 : dQ_P cL_law 1904 dT_L_law_119 := fun i => (dQ_L_law_118 (i + 16)).trans dk_t
theorem dQ_L_law_120 : dQ_P cL_law 1920 dT_L_law_120 := fun i => (dQ_L_law_119 (i + 16)).trans dk_t
theorem dQ_L_law_121 : dQ_P cL_law 1936 dT_L_law_121 := fun i => (dQ_L_law_120 (i + 16)).trans dk_t
theorem dQ_L_law_122 : dQ_P cL_law 1952 dT_L_law_122 := fun i => (dQ_L_law_121 (i + 16)).trans dk_t
theorem dQ_L_law_123 : dQ_P cL_law 1968 dT_L_law_123 := fun i => (dQ_L_law_122 (i + 16)).trans dk_t
theorem dQ_L_law_124 : dQ_P cL_law 1984 dT_L_law_124 := fun i => (dQ_L_law_123 (i + 16)).trans dk_t
theorem dQ_L_law_125 : dQ_P cL_law 2000 dT_L_law_125 := fun i => (dQ_L_law_124 (i + 16)).trans dk_t
theorem dQ_L_law_126 : dQ_P cL_law 2016 dT_L_law_126 := fun i => (dQ_L_law_125 (i + 16)).trans dk_t
theorem dQ_L_law_127 : dQ_P cL_law 2032 dT_L_law_127 := fun i => (dQ_L_law_126 (i + 16)).trans dk_t
theorem dQ_L_law_128 : dQ_P cL_law 2048 dT_L_law_128 := fun i => (dQ_L_law_127 (i + 16)).trans dk_t
theorem dQ_L_law_129 : dQ_P cL_law 2064 dT_L_law_129 := fun i => (dQ_L_law_128 (i + 16)).trans dk_t
theorem dQ_L_law_130 : dQ_P cL_law 2080 dT_L_law_130 := fun i => (dQ_L_law_129 (i + 16)).trans dk_t
theorem dQ_L_law_131 : dQ_P cL_law 2096 dT_L_law_131 := fun i => (dQ_L_law_130 (i + 16)).trans dk_t
theorem dQ_L_law_132 : dQ_P cL_law 2112 dT_L_law_132 := fun i => (dQ_L_law_131 (i + 16)).trans dk_t
theorem dQ_L_law_133 : dQ_P cL_law 2128 dT_L_law_133 := fun i => (dQ_L_law_132 (i + 16)).trans dk_t
theorem dQ_L_law_134 : dQ_P cL_law 2144 dT_L_law_134 := fun i => (dQ_L_law_133 (i + 16)).trans dk_t
theorem dQ_L_law_135 : dQ_P cL_law 2160 dT_L_law_135 := fun i => (dQ_L_law_134 (i + 16)).trans dk_t
theorem dQ_L_law_136 : dQ_P cL_law 2176 dT_L_law_136 := fun i => (dQ_L_law_135 (i + 16)).trans dk_t
theorem dL_law_0 : decode cL_law 0 = .ok (.new 7, 3) := dk_187 ((dQ_L_law_0 0).trans dk_j0) ((dQ_L_law_0 1).trans dk_j1) ((dQ_L_law_0 2).trans dk_j2) dk_vu2_0_7
theorem dL_law_3 : decode cL_law 3 = .ok (.dup, 1) := dk_89 ((dQ_L_law_0 3).trans dk_j3)
theorem dL_law_4 : decode cL_law 4 = .ok (.invokespecial 9, 3) := dk_183 ((dQ_L_law_0 4).trans dk_j4) ((dQ_L_law_0 5).trans dk_j5) ((dQ_L_law_0 6).trans dk_j6) dk_vu2_0_9
theorem dL_law_7 : decode cL_law 7 = .ok (.astore_n 1, 1) := dk_76 ((dQ_L_law_0 7).trans dk_j7)
theorem dL_law_8 : decode cL_law 8 = .ok (.new 10, 3) := dk_187 ((dQ_L_law_0 8).trans dk_j8) ((dQ_L_law_0 9).trans dk_j9) ((dQ_L_law_0 10).trans dk_j10) dk_vu2_0_10
theorem dL_law_11 : decode cL_law 11 = .ok (.dup, 1) := dk_89 ((dQ_L_law_0 11).trans dk_j11)
theorem dk_vu2_0_12 : (0x00 : UInt8).toNat * 256 + (0x0c : UInt8).toNat = (12 : Nat) := by decide +kernel
theorem dL_law_12 : decode cL_law 12 = .ok (.invokespecial 12, 3) := dk_183 ((dQ_L_law_0 12).trans dk_j12) ((dQ_L_law_0 13).trans dk_j13) ((dQ_L_law_0 14).trans dk_j14) dk_vu2_0_12
theorem dL_law_15 : decode cL_law 15 = .ok (.astore_n 2, 1) := dk_77 ((dQ_L_law_0 15).trans dk_j15)
theorem dL_law_16 : decode cL_law 16 = .ok (.iconst 0, 1) := dk_3 ((dQ_L_law_1 0).trans dk_j0)
theorem dL_law_17 : decode cL_law 17 = .ok (.istore_n 3, 1) := dk_62 ((dQ_L_law_1 1).trans dk_j1)
theorem dL_law_18 : decode cL_law 18 = .ok (.iload_n 3, 1) := dk_29 ((dQ_L_law_1 2).trans dk_j2)
theorem dL_law_19 : decode cL_law 19 = .ok (.aload_n 0, 1) := dk_42 ((dQ_L_law_1 3).trans dk_j3)
theorem dL_law_20 : decode cL_law 20 = .ok (.arraylength, 1) := dk_190 ((dQ_L_law_1 4).trans dk_j4)
theorem dL_law_21 : decode cL_law 21 = .ok (.bipush 6, 2) := dk_16 ((dQ_L_law_1 5).trans dk_j5) ((dQ_L_law_1 6).trans dk_j6) dk_vs1_6
theorem dL_law_23 : decode cL_law 23 = .ok (.isub, 1) := dk_100 ((dQ_L_law_1 7).trans dk_j7)
theorem dk_vs2_8_106 : Reader.signed 16 ((0x08 : UInt8).toNat * 256 + (0x6a : UInt8).toNat) = (2154 : Int) := by decide +kernel
theorem dL_law_24 : decode cL_law 24 = .ok (.if_icmp .gt 2154, 3) := dk_163 ((dQ_L_law_1 8).trans dk_j8) ((dQ_L_law_1 9).trans dk_j9) ((dQ_L_law_1 10).trans dk_j10) dk_vs2_8_106
theorem dL_law_27 : decode cL_law 27 = .ok (.aload_n 0, 1) := dk_42 ((dQ_L_law_1 11).trans dk_j11)
theorem dL_law_28 : decode cL_law 28 = .ok (.iload_n 3, 1) := dk_29 ((dQ_L_law_1 12).trans dk_j12)
theorem dL_law_29 : decode cL_law 29 = .ok (.iaload, 1) := dk_46 ((dQ_L_law_1 13).trans dk_j13)
theorem dk_vs1_127 : Reader.signed 8 (0x7f : UInt8).toNat = (127 : Int) := by decide +kernel
theorem dL_law_30 : decode cL_law 30 = .ok (.bipush 127, 2) := dk_16 ((dQ_L_law_1 14).trans dk_j14) ((dQ_L_law_1 15).trans dk_j15) dk_vs1_127
theorem dL_law_32 : decode cL_law 32 = .ok (.iand, 1) := dk_126 ((dQ_L_law_2 0).trans dk_j0)
theorem dL_law_33 : decode cL_law 33 = .ok (.tableswitch 2139 0 71 #[303, 366, 389, 402, 425, 458, 491, 514, 537, 560, 583, 596, 619, 652, 675, 698, 721, 734, 747, 760, 783, 816, 839, 852, 875, 898, 911, 934, 957, 970, 993, 1016, 1039, 1062, 1075, 1098, 1111, 1124, 1137, 1160, 1173, 1196, 1219, 1242, 1265, 1288, 1311, 1334, 1357, 1380, 1403, 1426, 1449, 1482, 1535, 1558, 1571, 1614, 1657, 1690, 1723, 1756, 1769, 1782, 1815, 1858, 1891, 1914, 1937, 1960, 2003, 2076], 303) := by decide +kernel
theorem dL_law_336 : decode cL_law 336 = .ok (.aload_n 1, 1) := dk_43 ((dQ_L_law_21 0).trans dk_j0)
theorem dL_law_337 : decode cL_law 337 = .ok (.aload_n 0, 1) := dk_42 ((dQ_L_law_21 1).trans dk_j1)
theorem dL_law_338 : decode cL_law 338 = .ok (.iload_n 3, 1) := dk_29 ((dQ_L_law_21 2).trans dk_j2)
theorem dL_law_339 : decode cL_law 339 = .ok (.iconst 1, 1) := dk_4 ((dQ_L_law_21 3).trans dk_j3)
theorem dL_law_340 : decode cL_law 340 = .ok (.iadd, 1) := dk_96 ((dQ_L_law_21 4).trans dk_j4)
theorem dL_law_341 : decode cL_law 341 = .ok (.iaload, 1) := dk_46 ((dQ_L_law_21 5).trans dk_j5)
theorem dL_law_342 : decode cL_law 342 = .ok (.aload_n 0, 1) := dk_42 ((dQ_L_law_21 6).trans dk_j6)
theorem dL_law_343 : decode cL_law 343 = .ok (.iload_n 3, 1) := dk_29 ((dQ_L_law_21 7).trans dk_j7)
theorem dL_law_344 : decode cL_law 344 = .ok (.iconst 2, 1) := dk_5 ((dQ_L_law_21 8).trans dk_j8)
theorem dL_law_345 : decode cL_law 345 = .ok (.iadd, 1) := dk_96 ((dQ_L_law_21 9).trans dk_j9)
theorem dL_law_346 : decode cL_law 346 = .ok (.iaload, 1) := dk_46 ((dQ_L_law_21 10).trans dk_j10)
theorem dL_law_347 : decode cL_law 347 = .ok (.aload_n 0, 1) := dk_42 ((dQ_L_law_21 11).trans dk_j11)
theorem dL_law_348 : decode cL_law 348 = .ok (.iload_n 3, 1) := dk_29 ((dQ_L_law_21 12).trans dk_j12)
theorem dL_law_349 : decode cL_law 349 = .ok (.iconst 3, 1) := dk_6 ((dQ_L_law_21 13).trans dk_j13)
theorem dL_law_350 : decode cL_law 350 = .ok (.iadd, 1) := dk_96 ((dQ_L_law_21 14).trans dk_j14)
theorem dL_law_351 : decode cL_law 351 = .ok (.iaload, 1) := dk_46 ((dQ_L_law_21 15).trans dk_j15)
theorem dL_law_352 : decode cL_law 352 = .ok (.aload_n 0, 1) := dk_42 ((dQ_L_law_22 0).trans dk_j0)
theorem dL_law_353 : decode cL_law 353 = .ok (.iload_n 3, 1) := dk_29 ((dQ_L_law_22 1).trans dk_j1)
theorem dL_law_354 : decode cL_law 354 = .ok (.iconst 4, 1) := dk_7 ((dQ_L_law_22 2).trans dk_j2)
theorem dL_law_355 : decode cL_law 355 = .ok (.iadd, 1) := dk_96 ((dQ_L_law_22 3).trans dk_j3)
theorem dL_law_356 : decode cL_law 356 = .ok (.iaload, 1) := dk_46 ((dQ_L_law_22 4).trans dk_j4)
theorem dL_law_357 : decode cL_law 357 = .ok (.aload_n 0, 1) := dk_42 ((dQ_L_law_22 5).trans dk_j5)
theorem dL_law_358 : decode cL_law 358 = .ok (.iload_n 3, 1) := dk_29 ((dQ_L_law_22 6).trans dk_j6)
theorem dL_law_359 : decode cL_law 359 = .ok (.iconst 5, 1) := dk_8 ((dQ_L_law_22 7).trans dk_j7)
theorem dL_law_360 : decode cL_law 360 = .ok (.iadd, 1) := dk_96 ((dQ_L_law_22 8).trans dk_j8)
theorem dL_law_361 : decode cL_law 361 = .ok (.iaload, 1) := dk_46 ((dQ_L_law_22 9).trans dk_j9)
theorem dL_law_362 : decode cL_law 362 = .ok (.invokevirtual 13, 3) := dk_182 ((dQ_L_law_22 10).trans dk_j10) ((dQ_L_law_22 11).trans dk_j11) ((dQ_L_law_22 12).trans dk_j12) dk_vu2_0_13
theorem dL_law_365 : decode cL_law 365 = .ok (.pop, 1) := dk_87 ((dQ_L_law_22 13).trans dk_j13)
theorem dL_law_366 : decode cL_law 366 = .ok (.aload_n 2, 1) := dk_44 ((dQ_L_law_22 14).trans dk_j14)
theorem dL_law_367 : decode cL_law 367 = .ok (.aload_n 0, 1) := dk_42 ((dQ_L_law_22 15).trans dk_j15)
theorem dL_law_368 : decode cL_law 368 = .ok (.iload_n 3, 1) := dk_29 ((dQ_L_law_23 0).trans dk_j0)
theorem dL_law_369 : decode cL_law 369 = .ok (.iconst 1, 1) := dk_4 ((dQ_L_law_23 1).trans dk_j1)
theorem dL_law_370 : decode cL_law 370 = .ok (.iadd, 1) := dk_96 ((dQ_L_law_23 2).trans dk_j2)
theorem dL_law_371 : decode cL_law 371 = .ok (.iaload, 1) := dk_46 ((dQ_L_law_23 3).trans dk_j3)
theorem dL_law_372 : decode cL_law 372 = .ok (.aload_n 0, 1) := dk_42 ((dQ_L_law_23 4).trans dk_j4)
theorem dL_law_373 : decode cL_law 373 = .ok (.iload_n 3, 1) := dk_29 ((dQ_L_law_23 5).trans dk_j5)
theorem dL_law_374 : decode cL_law 374 = .ok (.iconst 2, 1) := dk_5 ((dQ_L_law_23 6).trans dk_j6)
theorem dL_law_375 : decode cL_law 375 = .ok (.iadd, 1) := dk_96 ((dQ_L_law_23 7).trans dk_j7)
theorem dL_law_376 : decode cL_law 376 = .ok (.iaload, 1) := dk_46 ((dQ_L_law_23 8).trans dk_j8)
theorem dL_law_377 : decode cL_law 377 = .ok (.aload_n 0, 1) := dk_42 ((dQ_L_law_23 9).trans dk_j9)
theorem dL_law_378 : decode cL_law 378 = .ok (.iload_n 3, 1) := dk_29 ((dQ_L_law_23 10).trans dk_j10)
theorem dL_law_379 : decode cL_law 379 = .ok (.iconst 3, 1) := dk_6 ((dQ_L_law_23 11).trans dk_j11)
theorem dL_law_380 : decode cL_law 380 = .ok (.iadd, 1) := dk_96 ((dQ_L_law_23 12).trans dk_j12)
theorem dL_law_381 : decode cL_law 381 = .ok (.iaload, 1) := dk_46 ((dQ_L_law_23 13).trans dk_j13)
theorem dL_law_382 : decode cL_law 382 = .ok (.aload_n 0, 1) := dk_42 ((dQ_L_law_23 14).trans dk_j14)
theorem dL_law_383 : decode cL_law 383 = .ok (.iload_n 3, 1) := dk_29 ((dQ_L_law_23 15).trans dk_j15)
theorem dL_law_384 : decode cL_law 384 = .ok (.iconst 4, 1) := dk_7 ((dQ_L_law_24 0).trans dk_j0)
theorem dL_law_385 : decode cL_law 385 = .ok (.iadd, 1) := dk_96 ((dQ_L_law_24 1).trans dk_j1)
theorem dL_law_386 : decode cL_law 386 = .ok (.iaload, 1) := dk_46 ((dQ_L_law_24 2).trans dk_j2)
theorem dL_law_387 : decode cL_law 387 = .ok (.aload_n 0, 1) := dk_42 ((dQ_L_law_24 3).trans dk_j3)
theorem dL_law_388 : decode cL_law 388 = .ok (.iload_n 3, 1) := dk_29 ((dQ_L_law_24 4).trans dk_j4)
theorem dL_law_389 : decode cL_law 389 = .ok (.iconst 5, 1) := dk_8 ((dQ_L_law_24 5).trans dk_j5)
theorem dL_law_390 : decode cL_law 390 = .ok (.iadd, 1) := dk_96 ((dQ_L_law_24 6).trans dk_j6)
theorem dL_law_391 : decode cL_law 391 = .ok (.iaload, 1) := dk_46 ((dQ_L_law_24 7).trans dk_j7)
theorem dL_law_392 : decode cL_law 392 = .ok (.invokevirtual 17, 3) := dk_182 ((dQ_L_law_24 8).trans dk_j8) ((dQ_L_law_24 9).trans dk_j9) ((dQ_L_law_24 10).trans dk_j10) dk_vu2_0_17
theorem dL_law_395 : decode cL_law 395 = .ok (.pop, 1) := dk_87 ((dQ_L_law_24 11).trans dk_j11)
theorem dk_vs2_6_240 : Reader.signed 16 ((0x06 : UInt8).toNat * 256 + (0xf0 : UInt8).toNat) = (1776 : Int) := by decide +kernel
theorem dL_law_396 : decode cL_law 396 = .ok (.goto 1776, 3) := dk_167 ((dQ_L_law_24 12).trans dk_j12) ((dQ_L_law_24 13).trans dk_j13) ((dQ_L_law_24 14).trans dk_j14) dk_vs2_6_240
theorem dL_law_399 : decode cL_law 399 = .ok (.aload_n 1, 1) := dk_43 ((dQ_L_law_24 15).trans dk_j15)
theorem dL_law_400 : decode cL_law 400 = .ok (.aload_n 0, 1) := dk_42 ((dQ_L_law_25 0).trans dk_j0)
theorem dL_law_401 : decode cL_law 401 = .ok (.iload_n 3, 1) := dk_29 ((dQ_L_law_25 1).trans dk_j1)
theorem dL_law_402 : decode cL_law 402 = .ok (.iconst 1, 1) := dk_4 ((dQ_L_law_25 2).trans dk_j2)
theorem dL_law_403 : decode cL_law 403 = .ok (.iadd, 1) := dk_96 ((dQ_L_law_25 3).trans dk_j3)
theorem dL_law_404 : decode cL_law 404 = .ok (.iaload, 1) := dk_46 ((dQ_L_law_25 4).trans dk_j4)
theorem dL_law_405 : decode cL_law 405 = .ok (.invokevirtual 18, 3) := dk_182 ((dQ_L_law_25 5).trans dk_j5) ((dQ_L_law_25 6).trans dk_j6) ((dQ_L_law_25 7).trans dk_j7) dk_vu2_0_18
theorem dL_law_408 : decode cL_law 408 = .ok (.pop, 1) := dk_87 ((dQ_L_law_25 8).trans dk_j8)
theorem dL_law_409 : decode cL_law 409 = .ok (.aload_n 2, 1) := dk_44 ((dQ_L_law_25 9).trans dk_j9)
theorem dL_law_410 : decode cL_law 410 = .ok (.aload_n 0, 1) := dk_42 ((dQ_L_law_25 10).trans dk_j10)
theorem dL_law_411 : decode cL_law 411 = .ok (.iload_n 3, 1) := dk_29 ((dQ_L_law_25 11).trans dk_j11)
theorem dL_law_412 : decode cL_law 412 = .ok (.iconst 1, 1) := dk_4 ((dQ_L_law_25 12).trans dk_j12)
theorem dL_law_413 : decode cL_law 413 = .ok (.iadd, 1) := dk_96 ((dQ_L_law_25 13).trans dk_j13)
theorem dL_law_414 : decode cL_law 414 = .ok (.iaload, 1) := dk_46 ((dQ_L_law_25 14).trans dk_j14)
theorem dL_law_415 : decode cL_law 415 = .ok (.invokevirtual 22, 3) := dk_182 ((dQ_L_law_25 15).trans dk_j15) ((dQ_L_law_26 0).trans dk_j0) ((dQ_L_law_26 1).trans dk_j1) dk_vu2_0_22
theorem dL_law_418 : decode cL_law 418 = .ok (.pop, 1) := dk_87 ((dQ_L_law_26 2).trans dk_j2)
theorem dk_vs2_6_217 : Reader.signed 16 ((0x06 : UInt8).toNat * 256 + (0xd9 : UInt8).toNat) = (1753 : Int) := by decide +kernel
theorem dL_law_419 : decode cL_law 419 = .ok (.goto 1753, 3) := dk_167 ((dQ_L_law_26 3).trans dk_j3) ((dQ_L_law_26 4).trans dk_j4) ((dQ_L_law_26 5).trans dk_j5) dk_vs2_6_217
theorem dL_law_422 : decode cL_law 422 = .ok (.aload_n 1, 1) := dk_43 ((dQ_L_law_26 6).trans dk_j6)
theorem dL_law_423 : decode cL_law 423 = .ok (.invokevirtual 23, 3) := dk_182 ((dQ_L_law_26 7).trans dk_j7) ((dQ_L_law_26 8).trans dk_j8) ((dQ_L_law_26 9).trans dk_j9) dk_vu2_0_23
theorem dL_law_426 : decode cL_law 426 = .ok (.pop, 1) := dk_87 ((dQ_L_law_26 10).trans dk_j10)
theorem dL_law_427 : decode cL_law 427 = .ok (.aload_n 2, 1) := dk_44 ((dQ_L_law_26 11).trans dk_j11)
theorem dL_law_428 : decode cL_law 428 = .ok (.invokevirtual 27, 3) := dk_182 ((dQ_L_law_26 12).trans dk_j12) ((dQ_L_law_26 13).trans dk_j13) ((dQ_L_law_26 14).trans dk_j14) dk_vu2_0_27
theorem dL_law_431 : decode cL_law 431 = .ok (.pop, 1) := dk_87 ((dQ_L_law_26 15).trans dk_j15)
theorem dk_vs2_6_204 : Reader.signed 16 ((0x06 : UInt8).toNat * 256 + (0xcc : UInt8).toNat) = (1740 : Int) := by decide +kernel
theorem dL_law_432 : decode cL_law 432 = .ok (.goto 1740, 3) := dk_167 ((dQ_L_law_27 0).trans dk_j0) ((dQ_L_law_27 1).trans dk_j1) ((dQ_L_law_27 2).trans dk_j2) dk_vs2_6_204
theorem dL_law_435 : decode cL_law 435 = .ok (.aload_n 1, 1) := dk_43 ((dQ_L_law_27 3).trans dk_j3)
theorem dL_law_436 : decode cL_law 436 = .ok (.aload_n 0, 1) := dk_42 ((dQ_L_law_27 4).trans dk_j4)
theorem dL_law_437 : decode cL_law 437 = .ok (.iload_n 3, 1) := dk_29 ((dQ_L_law_27 5).trans dk_j5)
theorem dL_law_438 : decode cL_law 438 = .ok (.iconst 1, 1) := dk_4 ((dQ_L_law_27 6).trans dk_j6)
theorem dL_law_439 : decode cL_law 439 = .ok (.iadd, 1) := dk_96 ((dQ_L_law_27 7).trans dk_j7)
theorem dL_law_440 : decode cL_law 440 = .ok (.iaload, 1) := dk_46 ((dQ_L_law_27 8).trans dk_j8)
theorem dL_law_441 : decode cL_law 441 = .ok (.invokevirtual 28, 3) := dk_182 ((dQ_L_law_27 9).trans dk_j9) ((dQ_L_law_27 10).trans dk_j10) ((dQ_L_law_27 11).trans dk_j11) dk_vu2_0_28
theorem dL_law_444 : decode cL_law 444 = .ok (.pop, 1) := dk_87 ((dQ_L_law_27 12).trans dk_j12)
theorem dL_law_445 : decode cL_law 445 = .ok (.aload_n 2, 1) := dk_44 ((dQ_L_law_27 13).trans dk_j13)
theorem dL_law_446 : decode cL_law 446 = .ok (.aload_n 0, 1) := dk_42 ((dQ_L_law_27 14).trans dk_j14)
theorem dL_law_447 : decode cL_law 447 = .ok (.iload_n 3, 1) := dk_29 ((dQ_L_law_27 15).trans dk_j15)
theorem dL_law_448 : decode cL_law 448 = .ok (.iconst 1, 1) := dk_4 ((dQ_L_law_28 0).trans dk_j0)
theorem dL_law_449 : decode cL_law 449 = .ok (.iadd, 1) := dk_96 ((dQ_L_law_28 1).trans dk_j1)
theorem dL_law_450 : decode cL_law 450 = .ok (.iaload, 1) := dk_46 ((dQ_L_law_28 2).trans dk_j2)
theorem dL_law_451 : decode cL_law 451 = .ok (.invokevirtual 31, 3) := dk_182 ((dQ_L_law_28 3).trans dk_j3) ((dQ_L_law_28 4).trans dk_j4) ((dQ_L_law_28 5).trans dk_j5) dk_vu2_0_31
theorem dL_law_454 : decode cL_law 454 = .ok (.pop, 1) := dk_87 ((dQ_L_law_28 6).trans dk_j6)
theorem dk_vs2_6_181 : Reader.signed 16 ((0x06 : UInt8).toNat * 256 + (0xb5 : UInt8).toNat) = (1717 : Int) := by decide +kernel
theorem dL_law_455 : decode cL_law 455 = .ok (.goto 1717, 3) := dk_167 ((dQ_L_law_28 7).trans dk_j7) ((dQ_L_law_28 8).trans dk_j8) ((dQ_L_law_28 9).trans dk_j9) dk_vs2_6_181
theorem dL_law_458 : decode cL_law 458 = .ok (.aload_n 1, 1) := dk_43 ((dQ_L_law_28 10).trans dk_j10)
theorem dL_law_459 : decode cL_law 459 = .ok (.aload_n 0, 1) := dk_42 ((dQ_L_law_28 11).trans dk_j11)
theorem dL_law_460 : decode cL_law 460 = .ok (.iload_n 3, 1) := dk_29 ((dQ_L_law_28 12).trans dk_j12)
theorem dL_law_461 : decode cL_law 461 = .ok (.iconst 1, 1) := dk_4 ((dQ_L_law_28 13).trans dk_j13)
theorem dL_law_462 : decode cL_law 462 = .ok (.iadd, 1) := dk_96 ((dQ_L_law_28 14).trans dk_j14)
theorem dL_law_463 : decode cL_law 463 = .ok (.iaload, 1) := dk_46 ((dQ_L_law_28 15).trans dk_j15)
theorem dL_law_464 : decode cL_law 464 = .ok (.aload_n 0, 1) := dk_42 ((dQ_L_law_29 0).trans dk_j0)
theorem dL_law_465 : decode cL_law 465 = .ok (.iload_n 3, 1) := dk_29 ((dQ_L_law_29 1).trans dk_j1)
theorem dL_law_466 : decode cL_law 466 = .ok (.iconst 2, 1) := dk_5 ((dQ_L_law_29 2).trans dk_j2)
theorem dL_law_467 : decode cL_law 467 = .ok (.iadd, 1) := dk_96 ((dQ_L_law_29 3).trans dk_j3)
theorem dL_law_468 : decode cL_law 468 = .ok (.iaload, 1) := dk_46 ((dQ_L_law_29 4).trans dk_j4)
theorem dL_law_469 : decode cL_law 469 = .ok (.invokevirtual 32, 3) := dk_182 ((dQ_L_law_29 5).trans dk_j5) ((dQ_L_law_29 6).trans dk_j6) ((dQ_L_law_29 7).trans dk_j7) dk_vu2_0_32
theorem dL_law_472 : decode cL_law 472 = .ok (.pop, 1) := dk_87 ((dQ_L_law_29 8).trans dk_j8)
theorem dL_law_473 : decode cL_law 473 = .ok (.aload_n 2, 1) := dk_44 ((dQ_L_law_29 9).trans dk_j9)
theorem dL_law_474 : decode cL_law 474 = .ok (.aload_n 0, 1) := dk_42 ((dQ_L_law_29 10).trans dk_j10)
theorem dL_law_475 : decode cL_law 475 = .ok (.iload_n 3, 1) := dk_29 ((dQ_L_law_29 11).trans dk_j11)
theorem dL_law_476 : decode cL_law 476 = .ok (.iconst 1, 1) := dk_4 ((dQ_L_law_29 12).trans dk_j12)
theorem dL_law_477 : decode cL_law 477 = .ok (.iadd, 1) := dk_96 ((dQ_L_law_29 13).trans dk_j13)
theorem dL_law_478 : decode cL_law 478 = .ok (.iaload, 1) := dk_46 ((dQ_L_law_29 14).trans dk_j14)
theorem dL_law_479 : decode cL_law 479 = .ok (.aload_n 0, 1) := dk_42 ((dQ_L_law_29 15).trans dk_j15)
theorem dL_law_480 : decode cL_law 480 = .ok (.iload_n 3, 1) := dk_29 ((dQ_L_law_30 0).trans dk_j0)
theorem dL_law_481 : decode cL_law 481 = .ok (.iconst 2, 1) := dk_5 ((dQ_L_law_30 1).trans dk_j1)
theorem dL_law_482 : decode cL_law 482 = .ok (.iadd, 1) := dk_96 ((dQ_L_law_30 2).trans dk_j2)
theorem dL_law_483 : decode cL_law 483 = .ok (.iaload, 1) := dk_46 ((dQ_L_law_30 3).trans dk_j3)
theorem dL_law_484 : decode cL_law 484 = .ok (.invokevirtual 36, 3) := dk_182 ((dQ_L_law_30 4).trans dk_j4) ((dQ_L_law_30 5).trans dk_j5) ((dQ_L_law_30 6).trans dk_j6) dk_vu2_0_36
theorem dL_law_487 : decode cL_law 487 = .ok (.pop, 1) := dk_87 ((dQ_L_law_30 7).trans dk_j7)
theorem dk_vs2_6_148 : Reader.signed 16 ((0x06 : UInt8).toNat * 256 + (0x94 : UInt8).toNat) = (1684 : Int) := by decide +kernel
theorem dL_law_488 : decode cL_law 488 = .ok (.goto 1684, 3) := dk_167 ((dQ_L_law_30 8).trans dk_j8) ((dQ_L_law_30 9).trans dk_j9) ((dQ_L_law_30 10).trans dk_j10) dk_vs2_6_148
theorem dL_law_491 : decode cL_law 491 = .ok (.aload_n 1, 1) := dk_43 ((dQ_L_law_30 11).trans dk_j11)
theorem dL_law_492 : decode cL_law 492 = .ok (.aload_n 0, 1) := dk_42 ((dQ_L_law_30 12).trans dk_j12)
theorem dL_law_493 : decode cL_law 493 = .ok (.iload_n 3, 1) := dk_29 ((dQ_L_law_30 13).trans dk_j13)
theorem dL_law_494 : decode cL_law 494 = .ok (.iconst 1, 1) := dk_4 ((dQ_L_law_30 14).trans dk_j14)
theorem dL_law_495 : decode cL_law 495 = .ok (.iadd, 1) := dk_96 ((dQ_L_law_30 15).trans dk_j15)
theorem dL_law_496 : decode cL_law 496 = .ok (.iaload, 1) := dk_46 ((dQ_L_law_31 0).trans dk_j0)
theorem dL_law_497 : decode cL_law 497 = .ok (.aload_n 0, 1) := dk_42 ((dQ_L_law_31 1).trans dk_j1)
theorem dL_law_498 : decode cL_law 498 = .ok (.iload_n 3, 1) := dk_29 ((dQ_L_law_31 2).trans dk_j2)
theorem dL_law_499 : decode cL_law 499 = .ok (.iconst 2, 1) := dk_5 ((dQ_L_law_31 3).trans dk_j3)
theorem dL_law_500 : decode cL_law 500 = .ok (.iadd, 1) := dk_96 ((dQ_L_law_31 4).trans dk_j4)
theorem dL_law_501 : decode cL_law 501 = .ok (.iaload, 1) := dk_46 ((dQ_L_law_31 5).trans dk_j5)
theorem dL_law_502 : decode cL_law 502 = .ok (.invokevirtual 37, 3) := dk_182 ((dQ_L_law_31 6).trans dk_j6) ((dQ_L_law_31 7).trans dk_j7) ((dQ_L_law_31 8).trans dk_j8) dk_vu2_0_37
theorem dL_law_505 : decode cL_law 505 = .ok (.pop, 1) := dk_87 ((dQ_L_law_31 9).trans dk_j9)
theorem dL_law_506 : decode cL_law 506 = .ok (.aload_n 2, 1) := dk_44 ((dQ_L_law_31 10).trans dk_j10)
theorem dL_law_507 : decode cL_law 507 = .ok (.aload_n 0, 1) := dk_42 ((dQ_L_law_31 11).trans dk_j11)
theorem dL_law_508 : decode cL_law 508 = .ok (.iload_n 3, 1) := dk_29 ((dQ_L_law_31 12).trans dk_j12)
theorem dL_law_509 : decode cL_law 509 = .ok (.iconst 1, 1) := dk_4 ((dQ_L_law_31 13).trans dk_j13)
theorem dL_law_510 : decode cL_law 510 = .ok (.iadd, 1) := dk_96 ((dQ_L_law_31 14).trans dk_j14)
theorem dL_law_511 : decode cL_law 511 = .ok (.iaload, 1) := dk_46 ((dQ_L_law_31 15).trans dk_j15)
theorem dL_law_512 : decode cL_law 512 = .ok (.aload_n 0, 1) := dk_42 ((dQ_L_law_32 0).trans dk_j0)
theorem dL_law_513 : decode cL_law 513 = .ok (.iload_n 3, 1) := dk_29 ((dQ_L_law_32 1).trans dk_j1)
theorem dL_law_514 : decode cL_law 514 = .ok (.iconst 2, 1) := dk_5 ((dQ_L_law_32 2).trans dk_j2)
theorem dL_law_515 : decode cL_law 515 = .ok (.iadd, 1) := dk_96 ((dQ_L_law_32 3).trans dk_j3)
theorem dL_law_516 : decode cL_law 516 = .ok (.iaload, 1) := dk_46 ((dQ_L_law_32 4).trans dk_j4)
theorem dL_law_517 : decode cL_law 517 = .ok (.invokevirtual 40, 3) := dk_182 ((dQ_L_law_32 5).trans dk_j5) ((dQ_L_law_32 6).trans dk_j6) ((dQ_L_law_32 7).trans dk_j7) dk_vu2_0_40
theorem dL_law_520 : decode cL_law 520 = .ok (.pop, 1) := dk_87 ((dQ_L_law_32 8).trans dk_j8)
theorem dk_vs2_6_115 : Reader.signed 16 ((0x06 : UInt8).toNat * 256 + (0x73 : UInt8).toNat) = (1651 : Int) := by decide +kernel
theorem dL_law_521 : decode cL_law 521 = .ok (.goto 1651, 3) := dk_167 ((dQ_L_law_32 9).trans dk_j9) ((dQ_L_law_32 10).trans dk_j10) ((dQ_L_law_32 11).trans dk_j11) dk_vs2_6_115
theorem dL_law_524 : decode cL_law 524 = .ok (.aload_n 1, 1) := dk_43 ((dQ_L_law_32 12).trans dk_j12)
theorem dL_law_525 : decode cL_law 525 = .ok (.aload_n 0, 1) := dk_42 ((dQ_L_law_32 13).trans dk_j13)
theorem dL_law_526 : decode cL_law 526 = .ok (.iload_n 3, 1) := dk_29 ((dQ_L_law_32 14).trans dk_j14)
theorem dL_law_527 : decode cL_law 527 = .ok (.iconst 1, 1) := dk_4 ((dQ_L_law_32 15).trans dk_j15)
theorem dL_law_528 : decode cL_law 528 = .ok (.iadd, 1) := dk_96 ((dQ_L_law_33 0).trans dk_j0)
theorem dL_law_529 : decode cL_law 529 = .ok (.iaload, 1) := dk_46 ((dQ_L_law_33 1).trans dk_j1)
theorem dL_law_530 : decode cL_law 530 = .ok (.invokevirtual 41, 3) := dk_182 ((dQ_L_law_33 2).trans dk_j2) ((dQ_L_law_33 3).trans dk_j3) ((dQ_L_law_33 4).trans dk_j4) dk_vu2_0_41
theorem dL_law_533 : decode cL_law 533 = .ok (.pop, 1) := dk_87 ((dQ_L_law_33 5).trans dk_j5)
theorem dL_law_534 : decode cL_law 534 = .ok (.aload_n 2, 1) := dk_44 ((dQ_L_law_33 6).trans dk_j6)
theorem dL_law_535 : decode cL_law 535 = .ok (.aload_n 0, 1) := dk_42 ((dQ_L_law_33 7).trans dk_j7)
theorem dL_law_536 : decode cL_law 536 = .ok (.iload_n 3, 1) := dk_29 ((dQ_L_law_33 8).trans dk_j8)
theorem dL_law_537 : decode cL_law 537 = .ok (.iconst 1, 1) := dk_4 ((dQ_L_law_33 9).trans dk_j9)
theorem dL_law_538 : decode cL_law 538 = .ok (.iadd, 1) := dk_96 ((dQ_L_law_33 10).trans dk_j10)
theorem dL_law_539 : decode cL_law 539 = .ok (.iaload, 1) := dk_46 ((dQ_L_law_33 11).trans dk_j11)
theorem dL_law_540 : decode cL_law 540 = .ok (.invokevirtual 44, 3) := dk_182 ((dQ_L_law_33 12).trans dk_j12) ((dQ_L_law_33 13).trans dk_j13) ((dQ_L_law_33 14).trans dk_j14) dk_vu2_0_44
theorem dL_law_543 : decode cL_law 543 = .ok (.pop, 1) := dk_87 ((dQ_L_law_33 15).trans dk_j15)
theorem dk_vs2_6_92 : Reader.signed 16 ((0x06 : UInt8).toNat * 256 + (0x5c : UInt8).toNat) = (1628 : Int) := by decide +kernel
theorem dL_law_544 : decode cL_law 544 = .ok (.goto 1628, 3) := dk_167 ((dQ_L_law_34 0).trans dk_j0) ((dQ_L_law_34 1).trans dk_j1) ((dQ_L_law_34 2).trans dk_j2) dk_vs2_6_92
theorem dL_law_547 : decode cL_law 547 = .ok (.aload_n 1, 1) := dk_43 ((dQ_L_law_34 3).trans dk_j3)
theorem dL_law_548 : decode cL_law 548 = .ok (.aload_n 0, 1) := dk_42 ((dQ_L_law_34 4).trans dk_j4)
theorem dL_law_549 : decode cL_law 549 = .ok (.iload_n 3, 1) := dk_29 ((dQ_L_law_34 5).trans dk_j5)
theorem dL_law_550 : decode cL_law 550 = .ok (.iconst 1, 1) := dk_4 ((dQ_L_law_34 6).trans dk_j6)
theorem dL_law_551 : decode cL_law 551 = .ok (.iadd, 1) := dk_96 ((dQ_L_law_34 7).trans dk_j7)
theorem dL_law_552 : decode cL_law 552 = .ok (.iaload, 1) := dk_46 ((dQ_L_law_34 8).trans dk_j8)
theorem dL_law_553 : decode cL_law 553 = .ok (.invokevirtual 45, 3) := dk_182 ((dQ_L_law_34 9).trans dk_j9) ((dQ_L_law_34 10).trans dk_j10) ((dQ_L_law_34 11).trans dk_j11) dk_vu2_0_45
theorem dL_law_556 : decode cL_law 556 = .ok (.pop, 1) := dk_87 ((dQ_L_law_34 12).trans dk_j12)
theorem dL_law_557 : decode cL_law 557 = .ok (.aload_n 2, 1) := dk_44 ((dQ_L_law_34 13).trans dk_j13)
theorem dL_law_558 : decode cL_law 558 = .ok (.aload_n 0, 1) := dk_42 ((dQ_L_law_34 14).trans dk_j14)
theorem dL_law_559 : decode cL_law 559 = .ok (.iload_n 3, 1) := dk_29 ((dQ_L_law_34 15).trans dk_j15)
theorem dL_law_560 : decode cL_law 560 = .ok (.iconst 1, 1) := dk_4 ((dQ_L_law_35 0).trans dk_j0)
theorem dL_law_561 : decode cL_law 561 = .ok (.iadd, 1) := dk_96 ((dQ_L_law_35 1).trans dk_j1)
theorem dL_law_562 : decode cL_law 562 = .ok (.iaload, 1) := dk_46 ((dQ_L_law_35 2).trans dk_j2)
theorem dL_law_563 : decode cL_law 563 = .ok (.invokevirtual 48, 3) := dk_182 ((dQ_L_law_35 3).trans dk_j3) ((dQ_L_law_35 4).trans dk_j4) ((dQ_L_law_35 5).trans dk_j5) dk_vu2_0_48
theorem dL_law_566 : decode cL_law 566 = .ok (.pop, 1) := dk_87 ((dQ_L_law_35 6).trans dk_j6)
theorem dk_vs2_6_69 : Reader.signed 16 ((0x06 : UInt8).toNat * 256 + (0x45 : UInt8).toNat) = (1605 : Int) := by decide +kernel
theorem dL_law_567 : decode cL_law 567 = .ok (.goto 1605, 3) := dk_167 ((dQ_L_law_35 7).trans dk_j7) ((dQ_L_law_35 8).trans dk_j8) ((dQ_L_law_35 9).trans dk_j9) dk_vs2_6_69
theorem dL_law_570 : decode cL_law 570 = .ok (.aload_n 1, 1) := dk_43 ((dQ_L_law_35 10).trans dk_j10)
theorem dL_law_571 : decode cL_law 571 = .ok (.aload_n 0, 1) := dk_42 ((dQ_L_law_35 11).trans dk_j11)
theorem dL_law_572 : decode cL_law 572 = .ok (.iload_n 3, 1) := dk_29 ((dQ_L_law_35 12).trans dk_j12)
theorem dL_law_573 : decode cL_law 573 = .ok (.iconst 1, 1) := dk_4 ((dQ_L_law_35 13).trans dk_j13)
theorem dL_law_574 : decode cL_law 574 = .ok (.iadd, 1) := dk_96 ((dQ_L_law_35 14).trans dk_j14)
theorem dL_law_575 : decode cL_law 575 = .ok (.iaload, 1) := dk_46 ((dQ_L_law_35 15).trans dk_j15)
theorem dL_law_576 : decode cL_law 576 = .ok (.invokevirtual 49, 3) := dk_182 ((dQ_L_law_36 0).trans dk_j0) ((dQ_L_law_36 1).trans dk_j1) ((dQ_L_law_36 2).trans dk_j2) dk_vu2_0_49
theorem dL_law_579 : decode cL_law 579 = .ok (.pop, 1) := dk_87 ((dQ_L_law_36 3).trans dk_j3)
theorem dL_law_580 : decode cL_law 580 = .ok (.aload_n 2, 1) := dk_44 ((dQ_L_law_36 4).trans dk_j4)
theorem dL_law_581 : decode cL_law 581 = .ok (.aload_n 0, 1) := dk_42 ((dQ_L_law_36 5).trans dk_j5)
theorem dL_law_582 : decode cL_law 582 = .ok (.iload_n 3, 1) := dk_29 ((dQ_L_law_36 6).trans dk_j6)
theorem dL_law_583 : decode cL_law 583 = .ok (.iconst 1, 1) := dk_4 ((dQ_L_law_36 7).trans dk_j7)
theorem dL_law_584 : decode cL_law 584 = .ok (.iadd, 1) := dk_96 ((dQ_L_law_36 8).trans dk_j8)
theorem dL_law_585 : decode cL_law 585 = .ok (.iaload, 1) := dk_46 ((dQ_L_law_36 9).trans dk_j9)
theorem dL_law_586 : decode cL_law 586 = .ok (.invokevirtual 52, 3) := dk_182 ((dQ_L_law_36 10).trans dk_j10) ((dQ_L_law_36 11).trans dk_j11) ((dQ_L_law_36 12).trans dk_j12) dk_vu2_0_52
theorem dL_law_589 : decode cL_law 589 = .ok (.pop, 1) := dk_87 ((dQ_L_law_36 13).trans dk_j13)
theorem dk_vs2_6_46 : Reader.signed 16 ((0x06 : UInt8).toNat * 256 + (0x2e : UInt8).toNat) = (1582 : Int) := by decide +kernel
theorem dL_law_590 : decode cL_law 590 = .ok (.goto 1582, 3) := dk_167 ((dQ_L_law_36 14).trans dk_j14) ((dQ_L_law_36 15).trans dk_j15) ((dQ_L_law_37 0).trans dk_j0) dk_vs2_6_46
theorem dL_law_593 : decode cL_law 593 = .ok (.aload_n 1, 1) := dk_43 ((dQ_L_law_37 1).trans dk_j1)
theorem dL_law_594 : decode cL_law 594 = .ok (.aload_n 0, 1) := dk_42 ((dQ_L_law_37 2).trans dk_j2)
theorem dL_law_595 : decode cL_law 595 = .ok (.iload_n 3, 1) := dk_29 ((dQ_L_law_37 3).trans dk_j3)
theorem dL_law_596 : decode cL_law 596 = .ok (.iconst 1, 1) := dk_4 ((dQ_L_law_37 4).trans dk_j4)
theorem dL_law_597 : decode cL_law 597 = .ok (.iadd, 1) := dk_96 ((dQ_L_law_37 5).trans dk_j5)
theorem dL_law_598 : decode cL_law 598 = .ok (.iaload, 1) := dk_46 ((dQ_L_law_37 6).trans dk_j6)
theorem dL_law_599 : decode cL_law 599 = .ok (.invokevirtual 53, 3) := dk_182 ((dQ_L_law_37 7).trans dk_j7) ((dQ_L_law_37 8).trans dk_j8) ((dQ_L_law_37 9).trans dk_j9) dk_vu2_0_53
theorem dL_law_602 : decode cL_law 602 = .ok (.pop, 1) := dk_87 ((dQ_L_law_37 10).trans dk_j10)
theorem dL_law_603 : decode cL_law 603 = .ok (.aload_n 2, 1) := dk_44 ((dQ_L_law_37 11).trans dk_j11)
theorem dL_law_604 : decode cL_law 604 = .ok (.aload_n 0, 1) := dk_42 ((dQ_L_law_37 12).trans dk_j12)
theorem dL_law_605 : decode cL_law 605 = .ok (.iload_n 3, 1) := dk_29 ((dQ_L_law_37 13).trans dk_j13)
theorem dL_law_606 : decode cL_law 606 = .ok (.iconst 1, 1) := dk_4 ((dQ_L_law_37 14).trans dk_j14)
theorem dL_law_607 : decode cL_law 607 = .ok (.iadd, 1) := dk_96 ((dQ_L_law_37 15).trans dk_j15)
theorem dL_law_608 : decode cL_law 608 = .ok (.iaload, 1) := dk_46 ((dQ_L_law_38 0).trans dk_j0)
theorem dL_law_609 : decode cL_law 609 = .ok (.invokevirtual 56, 3) := dk_182 ((dQ_L_law_38 1).trans dk_j1) ((dQ_L_law_38 2).trans dk_j2) ((dQ_L_law_38 3).trans dk_j3) dk_vu2_0_56
theorem dL_law_612 : decode cL_law 612 = .ok (.pop, 1) := dk_87 ((dQ_L_law_38 4).trans dk_j4)
theorem dk_vs2_6_23 : Reader.signed 16 ((0x06 : UInt8).toNat * 256 + (0x17 : UInt8).toNat) = (1559 : Int) := by decide +kernel
theorem dL_law_613 : decode cL_law 613 = .ok (.goto 1559, 3) := dk_167 ((dQ_L_law_38 5).trans dk_j5) ((dQ_L_law_38 6).trans dk_j6) ((dQ_L_law_38 7).trans dk_j7) dk_vs2_6_23
theorem dL_law_616 : decode cL_law 616 = .ok (.aload_n 1, 1) := dk_43 ((dQ_L_law_38 8).trans dk_j8)
theorem dL_law_617 : decode cL_law 617 = .ok (.invokevirtual 57, 3) := dk_182 ((dQ_L_law_38 9).trans dk_j9) ((dQ_L_law_38 10).trans dk_j10) ((dQ_L_law_38 11).trans dk_j11) dk_vu2_0_57
theorem dL_law_620 : decode cL_law 620 = .ok (.pop, 1) := dk_87 ((dQ_L_law_38 12).trans dk_j12)
theorem dL_law_621 : decode cL_law 621 = .ok (.aload_n 2, 1) := dk_44 ((dQ_L_law_38 13).trans dk_j13)
theorem dL_law_622 : decode cL_law 622 = .ok (.invokevirtual 60, 3) := dk_182 ((dQ_L_law_38 14).trans dk_j14) ((dQ_L_law_38 15).trans dk_j15) ((dQ_L_law_39 0).trans dk_j0) dk_vu2_0_60
theorem dL_law_625 : decode cL_law 625 = .ok (.pop, 1) := dk_87 ((dQ_L_law_39 1).trans dk_j1)
theorem dk_vs2_6_10 : Reader.signed 16 ((0x06 : UInt8).toNat * 256 + (0x0a : UInt8).toNat) = (1546 : Int) := by decide +kernel
theorem dL_law_626 : decode cL_law 626 = .ok (.goto 1546, 3) := dk_167 ((dQ_L_law_39 2).trans dk_j2) ((dQ_L_law_39 3).trans dk_j3) ((dQ_L_law_39 4).trans dk_j4) dk_vs2_6_10
theorem dL_law_629 : decode cL_law 629 = .ok (.aload_n 1, 1) := dk_43 ((dQ_L_law_39 5).trans dk_j5)
theorem dL_law_630 : decode cL_law 630 = .ok (.aload_n 0, 1) := dk_42 ((dQ_L_law_39 6).trans dk_j6)
theorem dL_law_631 : decode cL_law 631 = .ok (.iload_n 3, 1) := dk_29 ((dQ_L_law_39 7).trans dk_j7)
theorem dL_law_632 : decode cL_law 632 = .ok (.iconst 1, 1) := dk_4 ((dQ_L_law_39 8).trans dk_j8)
theorem dL_law_633 : decode cL_law 633 = .ok (.iadd, 1) := dk_96 ((dQ_L_law_39 9).trans dk_j9)
theorem dL_law_634 : decode cL_law 634 = .ok (.iaload, 1) := dk_46 ((dQ_L_law_39 10).trans dk_j10)
theorem dL_law_635 : decode cL_law 635 = .ok (.invokevirtual 61, 3) := dk_182 ((dQ_L_law_39 11).trans dk_j11) ((dQ_L_law_39 12).trans dk_j12) ((dQ_L_law_39 13).trans dk_j13) dk_vu2_0_61
theorem dL_law_638 : decode cL_law 638 = .ok (.pop, 1) := dk_87 ((dQ_L_law_39 14).trans dk_j14)
theorem dL_law_639 : decode cL_law 639 = .ok (.aload_n 2, 1) := dk_44 ((dQ_L_law_39 15).trans dk_j15)
theorem dL_law_640 : decode cL_law 640 = .ok (.aload_n 0, 1) := dk_42 ((dQ_L_law_40 0).trans dk_j0)
theorem dL_law_641 : decode cL_law 641 = .ok (.iload_n 3, 1) := dk_29 ((dQ_L_law_40 1).trans dk_j1)
theorem dL_law_642 : decode cL_law 642 = .ok (.iconst 1, 1) := dk_4 ((dQ_L_law_40 2).trans dk_j2)
theorem dL_law_643 : decode cL_law 643 = .ok (.iadd, 1) := dk_96 ((dQ_L_law_40 3).trans dk_j3)
theorem dL_law_644 : decode cL_law 644 = .ok (.iaload, 1) := dk_46 ((dQ_L_law_40 4).trans dk_j4)
theorem dL_law_645 : decode cL_law 645 = .ok (.invokevirtual 64, 3) := dk_182 ((dQ_L_law_40 5).trans dk_j5) ((dQ_L_law_40 6).trans dk_j6) ((dQ_L_law_40 7).trans dk_j7) dk_vu2_0_64
theorem dL_law_648 : decode cL_law 648 = .ok (.pop, 1) := dk_87 ((dQ_L_law_40 8).trans dk_j8)
theorem dk_vs2_5_243 : Reader.signed 16 ((0x05 : UInt8).toNat * 256 + (0xf3 : UInt8).toNat) = (1523 : Int) := by decide +kernel
theorem dL_law_649 : decode cL_law 649 = .ok (.goto 1523, 3) := dk_167 ((dQ_L_law_40 9).trans dk_j9) ((dQ_L_law_40 10).trans dk_j10) ((dQ_L_law_40 11).trans dk_j11) dk_vs2_5_243
theorem dL_law_652 : decode cL_law 652 = .ok (.aload_n 1, 1) := dk_43 ((dQ_L_law_40 12).trans dk_j12)
theorem dL_law_653 : decode cL_law 653 = .ok (.aload_n 0, 1) := dk_42 ((dQ_L_law_40 13).trans dk_j13)
theorem dL_law_654 : decode cL_law 654 = .ok (.iload_n 3, 1) := dk_29 ((dQ_L_law_40 14).trans dk_j14)
theorem dL_law_655 : decode cL_law 655 = .ok (.iconst 1, 1) := dk_4 ((dQ_L_law_40 15).trans dk_j15)
theorem dL_law_656 : decode cL_law 656 = .ok (.iadd, 1) := dk_96 ((dQ_L_law_41 0).trans dk_j0)
theorem dL_law_657 : decode cL_law 657 = .ok (.iaload, 1) := dk_46 ((dQ_L_law_41 1).trans dk_j1)
theorem dL_law_658 : decode cL_law 658 = .ok (.aload_n 0, 1) := dk_42 ((dQ_L_law_41 2).trans dk_j2)
theorem dL_law_659 : decode cL_law 659 = .ok (.iload_n 3, 1) := dk_29 ((dQ_L_law_41 3).trans dk_j3)
theorem dL_law_660 : decode cL_law 660 = .ok (.iconst 2, 1) := dk_5 ((dQ_L_law_41 4).trans dk_j4)
theorem dL_law_661 : decode cL_law 661 = .ok (.iadd, 1) := dk_96 ((dQ_L_law_41 5).trans dk_j5)
theorem dL_law_662 : decode cL_law 662 = .ok (.iaload, 1) := dk_46 ((dQ_L_law_41 6).trans dk_j6)
theorem dL_law_663 : decode cL_law 663 = .ok (.invokevirtual 65, 3) := dk_182 ((dQ_L_law_41 7).trans dk_j7) ((dQ_L_law_41 8).trans dk_j8) ((dQ_L_law_41 9).trans dk_j9) dk_vu2_0_65
theorem dL_law_666 : decode cL_law 666 = .ok (.pop, 1) := dk_87 ((dQ_L_law_41 10).trans dk_j10)
theorem dL_law_667 : decode cL_law 667 = .ok (.aload_n 2, 1) := dk_44 ((dQ_L_law_41 11).trans dk_j11)
theorem dL_law_668 : decode cL_law 668 = .ok (.aload_n 0, 1) := dk_42 ((dQ_L_law_41 12).trans dk_j12)
theorem dL_law_669 : decode cL_law 669 = .ok (.iload_n 3, 1) := dk_29 ((dQ_L_law_41 13).trans dk_j13)
theorem dL_law_670 : decode cL_law 670 = .ok (.iconst 1, 1) := dk_4 ((dQ_L_law_41 14).trans dk_j14)
theorem dL_law_671 : decode cL_law 671 = .ok (.iadd, 1) := dk_96 ((dQ_L_law_41 15).trans dk_j15)
theorem dL_law_672 : decode cL_law 672 = .ok (.iaload, 1) := dk_46 ((dQ_L_law_42 0).trans dk_j0)
theorem dL_law_673 : decode cL_law 673 = .ok (.aload_n 0, 1) := dk_42 ((dQ_L_law_42 1).trans dk_j1)
theorem dL_law_674 : decode cL_law 674 = .ok (.iload_n 3, 1) := dk_29 ((dQ_L_law_42 2).trans dk_j2)
theorem dL_law_675 : decode cL_law 675 = .ok (.iconst 2, 1) := dk_5 ((dQ_L_law_42 3).trans dk_j3)
theorem dL_law_676 : decode cL_law 676 = .ok (.iadd, 1) := dk_96 ((dQ_L_law_42 4).trans dk_j4)
theorem dL_law_677 : decode cL_law 677 = .ok (.iaload, 1) := dk_46 ((dQ_L_law_42 5).trans dk_j5)
theorem dL_law_678 : decode cL_law 678 = .ok (.invokevirtual 68, 3) := dk_182 ((dQ_L_law_42 6).trans dk_j6) ((dQ_L_law_42 7).trans dk_j7) ((dQ_L_law_42 8).trans dk_j8) dk_vu2_0_68
theorem dL_law_681 : decode cL_law 681 = .ok (.pop, 1) := dk_87 ((dQ_L_law_42 9).trans dk_j9)
theorem dk_vs2_5_210 : Reader.signed 16 ((0x05 : UInt8).toNat * 256 + (0xd2 : UInt8).toNat) = (1490 : Int) := by decide +kernel
theorem dL_law_682 : decode cL_law 682 = .ok (.goto 1490, 3) := dk_167 ((dQ_L_law_42 10).trans dk_j10) ((dQ_L_law_42 11).trans dk_j11) ((dQ_L_law_42 12).trans dk_j12) dk_vs2_5_210
theorem dL_law_685 : decode cL_law 685 = .ok (.aload_n 1, 1) := dk_43 ((dQ_L_law_42 13).trans dk_j13)
theorem dL_law_686 : decode cL_law 686 = .ok (.aload_n 0, 1) := dk_42 ((dQ_L_law_42 14).trans dk_j14)
theorem dL_law_687 : decode cL_law 687 = .ok (.iload_n 3, 1) := dk_29 ((dQ_L_law_42 15).trans dk_j15)
theorem dL_law_688 : decode cL_law 688 = .ok (.iconst 1, 1) := dk_4 ((dQ_L_law_43 0).trans dk_j0)
theorem dL_law_689 : decode cL_law 689 = .ok (.iadd, 1) := dk_96 ((dQ_L_law_43 1).trans dk_j1)
theorem dL_law_690 : decode cL_law 690 = .ok (.iaload, 1) := dk_46 ((dQ_L_law_43 2).trans dk_j2)
theorem dk_vu2_0_69 : (0x00 : UInt8).toNat * 256 + (0x45 : UInt8).toNat = (69 : Nat) := by decide +kernel
theorem dL_law_691 : decode cL_law 691 = .ok (.invokevirtual 69, 3) := dk_182 ((dQ_L_law_43 3).trans dk_j3) ((dQ_L_law_43 4).trans dk_j4) ((dQ_L_law_43 5).trans dk_j5) dk_vu2_0_69
theorem dL_law_694 : decode cL_law 694 = .ok (.pop, 1) := dk_87 ((dQ_L_law_43 6).trans dk_j6)
theorem dL_law_695 : decode cL_law 695 = .ok (.aload_n 2, 1) := dk_44 ((dQ_L_law_43 7).trans dk_j7)
theorem dL_law_696 : decode cL_law 696 = .ok (.aload_n 0, 1) := dk_42 ((dQ_L_law_43 8).trans dk_j8)
theorem dL_law_697 : decode cL_law 697 = .ok (.iload_n 3, 1) := dk_29 ((dQ_L_law_43 9).trans dk_j9)
theorem dL_law_698 : decode cL_law 698 = .ok (.iconst 1, 1) := dk_4 ((dQ_L_law_43 10).trans dk_j10)
theorem dL_law_699 : decode cL_law 699 = .ok (.iadd, 1) := dk_96 ((dQ_L_law_43 11).trans dk_j11)
theorem dL_law_700 : decode cL_law 700 = .ok (.iaload, 1) := dk_46 ((dQ_L_law_43 12).trans dk_j12)
theorem dL_law_701 : decode cL_law 701 = .ok (.invokevirtual 72, 3) := dk_182 ((dQ_L_law_43 13).trans dk_j13) ((dQ_L_law_43 14).trans dk_j14) ((dQ_L_law_43 15).trans dk_j15) dk_vu2_0_72
theorem dL_law_704 : decode cL_law 704 = .ok (.pop, 1) := dk_87 ((dQ_L_law_44 0).trans dk_j0)
theorem dk_vs2_5_187 : Reader.signed 16 ((0x05 : UInt8).toNat * 256 + (0xbb : UInt8).toNat) = (1467 : Int) := by decide +kernel
theorem dL_law_705 : decode cL_law 705 = .ok (.goto 1467, 3) := dk_167 ((dQ_L_law_44 1).trans dk_j1) ((dQ_L_law_44 2).trans dk_j2) ((dQ_L_law_44 3).trans dk_j3) dk_vs2_5_187
theorem dL_law_708 : decode cL_law 708 = .ok (.aload_n 1, 1) := dk_43 ((dQ_L_law_44 4).trans dk_j4)
theorem dL_law_709 : decode cL_law 709 = .ok (.aload_n 0, 1) := dk_42 ((dQ_L_law_44 5).trans dk_j5)
theorem dL_law_710 : decode cL_law 710 = .ok (.iload_n 3, 1) := dk_29 ((dQ_L_law_44 6).trans dk_j6)
theorem dL_law_711 : decode cL_law 711 = .ok (.iconst 1, 1) := dk_4 ((dQ_L_law_44 7).trans dk_j7)
theorem dL_law_712 : decode cL_law 712 = .ok (.iadd, 1) := dk_96 ((dQ_L_law_44 8).trans dk_j8)
theorem dL_law_713 : decode cL_law 713 = .ok (.iaload, 1) := dk_46 ((dQ_L_law_44 9).trans dk_j9)
theorem dL_law_714 : decode cL_law 714 = .ok (.invokevirtual 73, 3) := dk_182 ((dQ_L_law_44 10).trans dk_j10) ((dQ_L_law_44 11).trans dk_j11) ((dQ_L_law_44 12).trans dk_j12) dk_vu2_0_73
theorem dL_law_717 : decode cL_law 717 = .ok (.pop, 1) := dk_87 ((dQ_L_law_44 13).trans dk_j13)
theorem dL_law_718 : decode cL_law 718 = .ok (.aload_n 2, 1) := dk_44 ((dQ_L_law_44 14).trans dk_j14)
theorem dL_law_719 : decode cL_law 719 = .ok (.aload_n 0, 1) := dk_42 ((dQ_L_law_44 15).trans dk_j15)
theorem dL_law_720 : decode cL_law 720 = .ok (.iload_n 3, 1) := dk_29 ((dQ_L_law_45 0).trans dk_j0)
theorem dL_law_721 : decode cL_law 721 = .ok (.iconst 1, 1) := dk_4 ((dQ_L_law_45 1).trans dk_j1)
theorem dL_law_722 : decode cL_law 722 = .ok (.iadd, 1) := dk_96 ((dQ_L_law_45 2).trans dk_j2)
theorem dL_law_723 : decode cL_law 723 = .ok (.iaload, 1) := dk_46 ((dQ_L_law_45 3).trans dk_j3)
theorem dL_law_724 : decode cL_law 724 = .ok (.invokevirtual 76, 3) := dk_182 ((dQ_L_law_45 4).trans dk_j4) ((dQ_L_law_45 5).trans dk_j5) ((dQ_L_law_45 6).trans dk_j6) dk_vu2_0_76
theorem dL_law_727 : decode cL_law 727 = .ok (.pop, 1) := dk_87 ((dQ_L_law_45 7).trans dk_j7)
theorem dk_vs2_5_164 : Reader.signed 16 ((0x05 : UInt8).toNat * 256 + (0xa4 : UInt8).toNat) = (1444 : Int) := by decide +kernel
theorem dL_law_728 : decode cL_law 728 = .ok (.goto 1444, 3) := dk_167 ((dQ_L_law_45 8).trans dk_j8) ((dQ_L_law_45 9).trans dk_j9) ((dQ_L_law_45 10).trans dk_j10) dk_vs2_5_164
theorem dL_law_731 : decode cL_law 731 = .ok (.aload_n 1, 1) := dk_43 ((dQ_L_law_45 11).trans dk_j11)
theorem dL_law_732 : decode cL_law 732 = .ok (.aload_n 0, 1) := dk_42 ((dQ_L_law_45 12).trans dk_j12)
theorem dL_law_733 : decode cL_law 733 = .ok (.iload_n 3, 1) := dk_29 ((dQ_L_law_45 13).trans dk_j13)
theorem dL_law_734 : decode cL_law 734 = .ok (.iconst 1, 1) := dk_4 ((dQ_L_law_45 14).trans dk_j14)
theorem dL_law_735 : decode cL_law 735 = .ok (.iadd, 1) := dk_96 ((dQ_L_law_45 15).trans dk_j15)
theorem dL_law_736 : decode cL_law 736 = .ok (.iaload, 1) := dk_46 ((dQ_L_law_46 0).trans dk_j0)
theorem dL_law_737 : decode cL_law 737 = .ok (.invokevirtual 77, 3) := dk_182 ((dQ_L_law_46 1).trans dk_j1) ((dQ_L_law_46 2).trans dk_j2) ((dQ_L_law_46 3).trans dk_j3) dk_vu2_0_77
theorem dL_law_740 : decode cL_law 740 = .ok (.pop, 1) := dk_87 ((dQ_L_law_46 4).trans dk_j4)
theorem dL_law_741 : decode cL_law 741 = .ok (.aload_n 2, 1) := dk_44 ((dQ_L_law_46 5).trans dk_j5)
theorem dL_law_742 : decode cL_law 742 = .ok (.aload_n 0, 1) := dk_42 ((dQ_L_law_46 6).trans dk_j6)
theorem dL_law_743 : decode cL_law 743 = .ok (.iload_n 3, 1) := dk_29 ((dQ_L_law_46 7).trans dk_j7)
theorem dL_law_744 : decode cL_law 744 = .ok (.iconst 1, 1) := dk_4 ((dQ_L_law_46 8).trans dk_j8)
theorem dL_law_745 : decode cL_law 745 = .ok (.iadd, 1) := dk_96 ((dQ_L_law_46 9).trans dk_j9)
theorem dL_law_746 : decode cL_law 746 = .ok (.iaload, 1) := dk_46 ((dQ_L_law_46 10).trans dk_j10)
theorem dL_law_747 : decode cL_law 747 = .ok (.invokevirtual 80, 3) := dk_182 ((dQ_L_law_46 11).trans dk_j11) ((dQ_L_law_46 12).trans dk_j12) ((dQ_L_law_46 13).trans dk_j13) dk_vu2_0_80
theorem dL_law_750 : decode cL_law 750 = .ok (.pop, 1) := dk_87 ((dQ_L_law_46 14).trans dk_j14)
theorem dk_vs2_5_141 : Reader.signed 16 ((0x05 : UInt8).toNat * 256 + (0x8d : UInt8).toNat) = (1421 : Int) := by decide +kernel
theorem dL_law_751 : decode cL_law 751 = .ok (.goto 1421, 3) := dk_167 ((dQ_L_law_46 15).trans dk_j15) ((dQ_L_law_47 0).trans dk_j0) ((dQ_L_law_47 1).trans dk_j1) dk_vs2_5_141
theorem dL_law_754 : decode cL_law 754 = .ok (.aload_n 1, 1) := dk_43 ((dQ_L_law_47 2).trans dk_j2)
theorem dL_law_755 : decode cL_law 755 = .ok (.invokevirtual 81, 3) := dk_182 ((dQ_L_law_47 3).trans dk_j3) ((dQ_L_law_47 4).trans dk_j4) ((dQ_L_law_47 5).trans dk_j5) dk_vu2_0_81
theorem dL_law_758 : decode cL_law 758 = .ok (.pop, 1) := dk_87 ((dQ_L_law_47 6).trans dk_j6)
theorem dL_law_759 : decode cL_law 759 = .ok (.aload_n 2, 1) := dk_44 ((dQ_L_law_47 7).trans dk_j7)
theorem dk_vu2_0_84 : (0x00 : UInt8).toNat * 256 + (0x54 : UInt8).toNat = (84 : Nat) := by decide +kernel
theorem dL_law_760 : decode cL_law 760 = .ok (.invokevirtual 84, 3) := dk_182 ((dQ_L_law_47 8).trans dk_j8) ((dQ_L_law_47 9).trans dk_j9) ((dQ_L_law_47 10).trans dk_j10) dk_vu2_0_84
theorem dL_law_763 : decode cL_law 763 = .ok (.pop, 1) := dk_87 ((dQ_L_law_47 11).trans dk_j11)
theorem dk_vs2_5_128 : Reader.signed 16 ((0x05 : UInt8).toNat * 256 + (0x80 : UInt8).toNat) = (1408 : Int) := by decide +kernel
theorem dL_law_764 : decode cL_law 764 = .ok (.goto 1408, 3) := dk_167 ((dQ_L_law_47 12).trans dk_j12) ((dQ_L_law_47 13).trans dk_j13) ((dQ_L_law_47 14).trans dk_j14) dk_vs2_5_128
theorem dL_law_767 : decode cL_law 767 = .ok (.aload_n 1, 1) := dk_43 ((dQ_L_law_47 15).trans dk_j15)
theorem dL_law_768 : decode cL_law 768 = .ok (.invokevirtual 85, 3) := dk_182 ((dQ_L_law_48 0).trans dk_j0) ((dQ_L_law_48 1).trans dk_j1) ((dQ_L_law_48 2).trans dk_j2) dk_vu2_0_85
theorem dL_law_771 : decode cL_law 771 = .ok (.pop, 1) := dk_87 ((dQ_L_law_48 3).trans dk_j3)
theorem dL_law_772 : decode cL_law 772 = .ok (.aload_n 2, 1) := dk_44 ((dQ_L_law_48 4).trans dk_j4)
theorem dk_vu2_0_88 : (0x00 : UInt8).toNat * 256 + (0x58 : UInt8).toNat = (88 : Nat) := by decide +kernel
theorem dL_law_773 : decode cL_law 773 = .ok (.invokevirtual 88, 3) := dk_182 ((dQ_L_law_48 5).trans dk_j5) ((dQ_L_law_48 6).trans dk_j6) ((dQ_L_law_48 7).trans dk_j7) dk_vu2_0_88
theorem dL_law_776 : decode cL_law 776 = .ok (.pop, 1) := dk_87 ((dQ_L_law_48 8).trans dk_j8)
theorem dk_vs2_5_115 : Reader.signed 16 ((0x05 : UInt8).toNat * 256 + (0x73 : UInt8).toNat) = (1395 : Int) := by decide +kernel
theorem dL_law_777 : decode cL_law 777 = .ok (.goto 1395, 3) := dk_167 ((dQ_L_law_48 9).trans dk_j9) ((dQ_L_law_48 10).trans dk_j10) ((dQ_L_law_48 11).trans dk_j11) dk_vs2_5_115
theorem dL_law_780 : decode cL_law 780 = .ok (.aload_n 1, 1) := dk_43 ((dQ_L_law_48 12).trans dk_j12)
theorem dL_law_781 : decode cL_law 781 = .ok (.invokevirtual 89, 3) := dk_182 ((dQ_L_law_48 13).trans dk_j13) ((dQ_L_law_48 14).trans dk_j14) ((dQ_L_law_48 15).trans dk_j15) dk_vu2_0_89
theorem dL_law_784 : decode cL_law 784 = .ok (.pop, 1) := dk_87 ((dQ_L_law_49 0).trans dk_j0)
theorem dL_law_785 : decode cL_law 785 = .ok (.aload_n 2, 1) := dk_44 ((dQ_L_law_49 1).trans dk_j1)
theorem dL_law_786 : decode cL_law 786 = .ok (.invokevirtual 92, 3) := dk_182 ((dQ_L_law_49 2).trans dk_j2) ((dQ_L_law_49 3).trans dk_j3) ((dQ_L_law_49 4).trans dk_j4) dk_vu2_0_92
theorem dL_law_789 : decode cL_law 789 = .ok (.pop, 1) := dk_87 ((dQ_L_law_49 5).trans dk_j5)
theorem dk_vs2_5_102 : Reader.signed 16 ((0x05 : UInt8).toNat * 256 + (0x66 : UInt8).toNat) = (1382 : Int) := by decide +kernel
theorem dL_law_790 : decode cL_law 790 = .ok (.goto 1382, 3) := dk_167 ((dQ_L_law_49 6).trans dk_j6) ((dQ_L_law_49 7).trans dk_j7) ((dQ_L_law_49 8).trans dk_j8) dk_vs2_5_102
theorem dL_law_793 : decode cL_law 793 = .ok (.aload_n 1, 1) := dk_43 ((dQ_L_law_49 9).trans dk_j9)
theorem dL_law_794 : decode cL_law 794 = .ok (.aload_n 0, 1) := dk_42 ((dQ_L_law_49 10).trans dk_j10)
theorem dL_law_795 : decode cL_law 795 = .ok (.iload_n 3, 1) := dk_29 ((dQ_L_law_49 11).trans dk_j11)
theorem dL_law_796 : decode cL_law 796 = .ok (.iconst 1, 1) := dk_4 ((dQ_L_law_49 12).trans dk_j12)
theorem dL_law_797 : decode cL_law 797 = .ok (.iadd, 1) := dk_96 ((dQ_L_law_49 13).trans dk_j13)
theorem dL_law_798 : decode cL_law 798 = .ok (.iaload, 1) := dk_46 ((dQ_L_law_49 14).trans dk_j14)
theorem dk_vu2_0_93 : (0x00 : UInt8).toNat * 256 + (0x5d : UInt8).toNat = (93 : Nat) := by decide +kernel
theorem dL_law_799 : decode cL_law 799 = .ok (.invokevirtual 93, 3) := dk_182 ((dQ_L_law_49 15).trans dk_j15) ((dQ_L_law_50 0).trans dk_j0) ((dQ_L_law_50 1).trans dk_j1) dk_vu2_0_93
theorem dL_law_802 : decode cL_law 802 = .ok (.pop, 1) := dk_87 ((dQ_L_law_50 2).trans dk_j2)
theorem dL_law_803 : decode cL_law 803 = .ok (.aload_n 2, 1) := dk_44 ((dQ_L_law_50 3).trans dk_j3)
theorem dL_law_804 : decode cL_law 804 = .ok (.aload_n 0, 1) := dk_42 ((dQ_L_law_50 4).trans dk_j4)
theorem dL_law_805 : decode cL_law 805 = .ok (.iload_n 3, 1) := dk_29 ((dQ_L_law_50 5).trans dk_j5)
theorem dL_law_806 : decode cL_law 806 = .ok (.iconst 1, 1) := dk_4 ((dQ_L_law_50 6).trans dk_j6)
theorem dL_law_807 : decode cL_law 807 = .ok (.iadd, 1) := dk_96 ((dQ_L_law_50 7).trans dk_j7)
theorem dL_law_808 : decode cL_law 808 = .ok (.iaload, 1) := dk_46 ((dQ_L_law_50 8).trans dk_j8)
theorem dk_vu2_0_96 : (0x00 : UInt8).toNat * 256 + (0x60 : UInt8).toNat = (96 : Nat) := by decide +kernel
theorem dL_law_809 : decode cL_law 809 = .ok (.invokevirtual 96, 3) := dk_182 ((dQ_L_law_50 9).trans dk_j9) ((dQ_L_law_50 10).trans dk_j10) ((dQ_L_law_50 11).trans dk_j11) dk_vu2_0_96
theorem dL_law_812 : decode cL_law 812 = .ok (.pop, 1) := dk_87 ((dQ_L_law_50 12).trans dk_j12)
theorem dk_vs2_5_79 : Reader.signed 16 ((0x05 : UInt8).toNat * 256 + (0x4f : UInt8).toNat) = (1359 : Int) := by decide +kernel
theorem dL_law_813 : decode cL_law 813 = .ok (.goto 1359, 3) := dk_167 ((dQ_L_law_50 13).trans dk_j13) ((dQ_L_law_50 14).trans dk_j14) ((dQ_L_law_50 15).trans dk_j15) dk_vs2_5_79
theorem dL_law_816 : decode cL_law 816 = .ok (.aload_n 1, 1) := dk_43 ((dQ_L_law_51 0).trans dk_j0)
theorem dL_law_817 : decode cL_law 817 = .ok (.aload_n 0, 1) := dk_42 ((dQ_L_law_51 1).trans dk_j1)
theorem dL_law_818 : decode cL_law 818 = .ok (.iload_n 3, 1) := dk_29 ((dQ_L_law_51 2).trans dk_j2)
theorem dL_law_819 : decode cL_law 819 = .ok (.iconst 1, 1) := dk_4 ((dQ_L_law_51 3).trans dk_j3)
theorem dL_law_820 : decode cL_law 820 = .ok (.iadd, 1) := dk_96 ((dQ_L_law_51 4).trans dk_j4)
theorem dL_law_821 : decode cL_law 821 = .ok (.iaload, 1) := dk_46 ((dQ_L_law_51 5).trans dk_j5)
theorem dL_law_822 : decode cL_law 822 = .ok (.aload_n 0, 1) := dk_42 ((dQ_L_law_51 6).trans dk_j6)
theorem dL_law_823 : decode cL_law 823 = .ok (.iload_n 3, 1) := dk_29 ((dQ_L_law_51 7).trans dk_j7)
theorem dL_law_824 : decode cL_law 824 = .ok (.iconst 2, 1) := dk_5 ((dQ_L_law_51 8).trans dk_j8)
theorem dL_law_825 : decode cL_law 825 = .ok (.iadd, 1) := dk_96 ((dQ_L_law_51 9).trans dk_j9)
theorem dL_law_826 : decode cL_law 826 = .ok (.iaload, 1) := dk_46 ((dQ_L_law_51 10).trans dk_j10)
theorem dL_law_827 : decode cL_law 827 = .ok (.invokevirtual 97, 3) := dk_182 ((dQ_L_law_51 11).trans dk_j11) ((dQ_L_law_51 12).trans dk_j12) ((dQ_L_law_51 13).trans dk_j13) dk_vu2_0_97
theorem dL_law_830 : decode cL_law 830 = .ok (.pop, 1) := dk_87 ((dQ_L_law_51 14).trans dk_j14)
theorem dL_law_831 : decode cL_law 831 = .ok (.aload_n 2, 1) := dk_44 ((dQ_L_law_51 15).trans dk_j15)
theorem dL_law_832 : decode cL_law 832 = .ok (.aload_n 0, 1) := dk_42 ((dQ_L_law_52 0).trans dk_j0)
theorem dL_law_833 : decode cL_law 833 = .ok (.iload_n 3, 1) := dk_29 ((dQ_L_law_52 1).trans dk_j1)
theorem dL_law_834 : decode cL_law 834 = .ok (.iconst 1, 1) := dk_4 ((dQ_L_law_52 2).trans dk_j2)
theorem dL_law_835 : decode cL_law 835 = .ok (.iadd, 1) := dk_96 ((dQ_L_law_52 3).trans dk_j3)
theorem dL_law_836 : decode cL_law 836 = .ok (.iaload, 1) := dk_46 ((dQ_L_law_52 4).trans dk_j4)
theorem dL_law_837 : decode cL_law 837 = .ok (.aload_n 0, 1) := dk_42 ((dQ_L_law_52 5).trans dk_j5)
theorem dL_law_838 : decode cL_law 838 = .ok (.iload_n 3, 1) := dk_29 ((dQ_L_law_52 6).trans dk_j6)
theorem dL_law_839 : decode cL_law 839 = .ok (.iconst 2, 1) := dk_5 ((dQ_L_law_52 7).trans dk_j7)
theorem dL_law_840 : decode cL_law 840 = .ok (.iadd, 1) := dk_96 ((dQ_L_law_52 8).trans dk_j8)
theorem dL_law_841 : decode cL_law 841 = .ok (.iaload, 1) := dk_46 ((dQ_L_law_52 9).trans dk_j9)
theorem dL_law_842 : decode cL_law 842 = .ok (.invokevirtual 100, 3) := dk_182 ((dQ_L_law_52 10).trans dk_j10) ((dQ_L_law_52 11).trans dk_j11) ((dQ_L_law_52 12).trans dk_j12) dk_vu2_0_100
theorem dL_law_845 : decode cL_law 845 = .ok (.pop, 1) := dk_87 ((dQ_L_law_52 13).trans dk_j13)
theorem dk_vs2_5_46 : Reader.signed 16 ((0x05 : UInt8).toNat * 256 + (0x2e : UInt8).toNat) = (1326 : Int) := by decide +kernel
theorem dL_law_846 : decode cL_law 846 = .ok (.goto 1326, 3) := dk_167 ((dQ_L_law_52 14).trans dk_j14) ((dQ_L_law_52 15).trans dk_j15) ((dQ_L_law_53 0).trans dk_j0) dk_vs2_5_46
theorem dL_law_849 : decode cL_law 849 = .ok (.aload_n 1, 1) := dk_43 ((dQ_L_law_53 1).trans dk_j1)
theorem dL_law_850 : decode cL_law 850 = .ok (.aload_n 0, 1) := dk_42 ((dQ_L_law_53 2).trans dk_j2)
theorem dL_law_851 : decode cL_law 851 = .ok (.iload_n 3, 1) := dk_29 ((dQ_L_law_53 3).trans dk_j3)
theorem dL_law_852 : decode cL_law 852 = .ok (.iconst 1, 1) := dk_4 ((dQ_L_law_53 4).trans dk_j4)
theorem dL_law_853 : decode cL_law 853 = .ok (.iadd, 1) := dk_96 ((dQ_L_law_53 5).trans dk_j5)
theorem dL_law_854 : decode cL_law 854 = .ok (.iaload, 1) := dk_46 ((dQ_L_law_53 6).trans dk_j6)
theorem dk_vu2_0_101 : (0x00 : UInt8).toNat * 256 + (0x65 : UInt8).toNat = (101 : Nat) := by decide +kernel
theorem dL_law_855 : decode cL_law 855 = .ok (.invokevirtual 101, 3) := dk_182 ((dQ_L_law_53 7).trans dk_j7) ((dQ_L_law_53 8).trans dk_j8) ((dQ_L_law_53 9).trans dk_j9) dk_vu2_0_101
theorem dL_law_858 : decode cL_law 858 = .ok (.pop, 1) := dk_87 ((dQ_L_law_53 10).trans dk_j10)
theorem dL_law_859 : decode cL_law 859 = .ok (.aload_n 2, 1) := dk_44 ((dQ_L_law_53 11).trans dk_j11)
theorem dL_law_860 : decode cL_law 860 = .ok (.aload_n 0, 1) := dk_42 ((dQ_L_law_53 12).trans dk_j12)
theorem dL_law_861 : decode cL_law 861 = .ok (.iload_n 3, 1) := dk_29 ((dQ_L_law_53 13).trans dk_j13)
theorem dL_law_862 : decode cL_law 862 = .ok (.iconst 1, 1) := dk_4 ((dQ_L_law_53 14).trans dk_j14)
theorem dL_law_863 : decode cL_law 863 = .ok (.iadd, 1) := dk_96 ((dQ_L_law_53 15).trans dk_j15)
theorem dL_law_864 : decode cL_law 864 = .ok (.iaload, 1) := dk_46 ((dQ_L_law_54 0).trans dk_j0)
theorem dL_law_865 : decode cL_law 865 = .ok (.invokevirtual 104, 3) := dk_182 ((dQ_L_law_54 1).trans dk_j1) ((dQ_L_law_54 2).trans dk_j2) ((dQ_L_law_54 3).trans dk_j3) dk_vu2_0_104
theorem dL_law_868 : decode cL_law 868 = .ok (.pop, 1) := dk_87 ((dQ_L_law_54 4).trans dk_j4)
theorem dk_vs2_5_23 : Reader.signed 16 ((0x05 : UInt8).toNat * 256 + (0x17 : UInt8).toNat) = (1303 : Int) := by decide +kernel
theorem dL_law_869 : decode cL_law 869 = .ok (.goto 1303, 3) := dk_167 ((dQ_L_law_54 5).trans dk_j5) ((dQ_L_law_54 6).trans dk_j6) ((dQ_L_law_54 7).trans dk_j7) dk_vs2_5_23
theorem dL_law_872 : decode cL_law 872 = .ok (.aload_n 1, 1) := dk_43 ((dQ_L_law_54 8).trans dk_j8)
theorem dL_law_873 : decode cL_law 873 = .ok (.invokevirtual 105, 3) := dk_182 ((dQ_L_law_54 9).trans dk_j9) ((dQ_L_law_54 10).trans dk_j10) ((dQ_L_law_54 11).trans dk_j11) dk_vu2_0_105
theorem dL_law_876 : decode cL_law 876 = .ok (.pop, 1) := dk_87 ((dQ_L_law_54 12).trans dk_j12)
theorem dL_law_877 : decode cL_law 877 = .ok (.aload_n 2, 1) := dk_44 ((dQ_L_law_54 13).trans dk_j13)
theorem dL_law_878 : decode cL_law 878 = .ok (.invokevirtual 108, 3) := dk_182 ((dQ_L_law_54 14).trans dk_j14) ((dQ_L_law_54 15).trans dk_j15) ((dQ_L_law_55 0).trans dk_j0) dk_vu2_0_108
theorem dL_law_881 : decode cL_law 881 = .ok (.pop, 1) := dk_87 ((dQ_L_law_55 1).trans dk_j1)
theorem dk_vs2_5_10 : Reader.signed 16 ((0x05 : UInt8).toNat * 256 + (0x0a : UInt8).toNat) = (1290 : Int) := by decide +kernel
theorem dL_law_882 : decode cL_law 882 = .ok (.goto 1290, 3) := dk_167 ((dQ_L_law_55 2).trans dk_j2) ((dQ_L_law_55 3).trans dk_j3) ((dQ_L_law_55 4).trans dk_j4) dk_vs2_5_10
theorem dL_law_885 : decode cL_law 885 = .ok (.aload_n 1, 1) := dk_43 ((dQ_L_law_55 5).trans dk_j5)
theorem dL_law_886 : decode cL_law 886 = .ok (.aload_n 0, 1) := dk_42 ((dQ_L_law_55 6).trans dk_j6)
theorem dL_law_887 : decode cL_law 887 = .ok (.iload_n 3, 1) := dk_29 ((dQ_L_law_55 7).trans dk_j7)
theorem dL_law_888 : decode cL_law 888 = .ok (.iconst 1, 1) := dk_4 ((dQ_L_law_55 8).trans dk_j8)
theorem dL_law_889 : decode cL_law 889 = .ok (.iadd, 1) := dk_96 ((dQ_L_law_55 9).trans dk_j9)
theorem dL_law_890 : decode cL_law 890 = .ok (.iaload, 1) := dk_46 ((dQ_L_law_55 10).trans dk_j10)
theorem dL_law_891 : decode cL_law 891 = .ok (.invokevirtual 109, 3) := dk_182 ((dQ_L_law_55 11).trans dk_j11) ((dQ_L_law_55 12).trans dk_j12) ((dQ_L_law_55 13).trans dk_j13) dk_vu2_0_109
theorem dL_law_894 : decode cL_law 894 = .ok (.pop, 1) := dk_87 ((dQ_L_law_55 14).trans dk_j14)
theorem dL_law_895 : decode cL_law 895 = .ok (.aload_n 2, 1) := dk_44 ((dQ_L_law_55 15).trans dk_j15)
theorem dL_law_896 : decode cL_law 896 = .ok (.aload_n 0, 1) := dk_42 ((dQ_L_law_56 0).trans dk_j0)
theorem dL_law_897 : decode cL_law 897 = .ok (.iload_n 3, 1) := dk_29 ((dQ_L_law_56 1).trans dk_j1)
theorem dL_law_898 : decode cL_law 898 = .ok (.iconst 1, 1) := dk_4 ((dQ_L_law_56 2).trans dk_j2)
theorem dL_law_899 : decode cL_law 899 = .ok (.iadd, 1) := dk_96 ((dQ_L_law_56 3).trans dk_j3)
theorem dL_law_900 : decode cL_law 900 = .ok (.iaload, 1) := dk_46 ((dQ_L_law_56 4).trans dk_j4)
theorem dk_vu2_0_112 : (0x00 : UInt8).toNat * 256 + (0x70 : UInt8).toNat = (112 : Nat) := by decide +kernel
theorem dL_law_901 : decode cL_law 901 = .ok (.invokevirtual 112, 3) := dk_182 ((dQ_L_law_56 5).trans dk_j5) ((dQ_L_law_56 6).trans dk_j6) ((dQ_L_law_56 7).trans dk_j7) dk_vu2_0_112
theorem dL_law_904 : decode cL_law 904 = .ok (.pop, 1) := dk_87 ((dQ_L_law_56 8).trans dk_j8)
theorem dk_vs2_4_243 : Reader.signed 16 ((0x04 : UInt8).toNat * 256 + (0xf3 : UInt8).toNat) = (1267 : Int) := by decide +kernel
theorem dL_law_905 : decode cL_law 905 = .ok (.goto 1267, 3) := dk_167 ((dQ_L_law_56 9).trans dk_j9) ((dQ_L_law_56 10).trans dk_j10) ((dQ_L_law_56 11).trans dk_j11) dk_vs2_4_243
theorem dL_law_908 : decode cL_law 908 = .ok (.aload_n 1, 1) := dk_43 ((dQ_L_law_56 12).trans dk_j12)
theorem dL_law_909 : decode cL_law 909 = .ok (.aload_n 0, 1) := dk_42 ((dQ_L_law_56 13).trans dk_j13)
theorem dL_law_910 : decode cL_law 910 = .ok (.iload_n 3, 1) := dk_29 ((dQ_L_law_56 14).trans dk_j14)
theorem dL_law_911 : decode cL_law 911 = .ok (.iconst 1, 1) := dk_4 ((dQ_L_law_56 15).trans dk_j15)
theorem dL_law_912 : decode cL_law 912 = .ok (.iadd, 1) := dk_96 ((dQ_L_law_57 0).trans dk_j0)
theorem dL_law_913 : decode cL_law 913 = .ok (.iaload, 1) := dk_46 ((dQ_L_law_57 1).trans dk_j1)
theorem dL_law_914 : decode cL_law 914 = .ok (.invokevirtual 113, 3) := dk_182 ((dQ_L_law_57 2).trans dk_j2) ((dQ_L_law_57 3).trans dk_j3) ((dQ_L_law_57 4).trans dk_j4) dk_vu2_0_113
theorem dL_law_917 : decode cL_law 917 = .ok (.pop, 1) := dk_87 ((dQ_L_law_57 5).trans dk_j5)
theorem dL_law_918 : decode cL_law 918 = .ok (.aload_n 2, 1) := dk_44 ((dQ_L_law_57 6).trans dk_j6)
theorem dL_law_919 : decode cL_law 919 = .ok (.aload_n 0, 1) := dk_42 ((dQ_L_law_57 7).trans dk_j7)
theorem dL_law_920 : decode cL_law 920 = .ok (.iload_n 3, 1) := dk_29 ((dQ_L_law_57 8).trans dk_j8)
theorem dL_law_921 : decode cL_law 921 = .ok (.iconst 1, 1) := dk_4 ((dQ_L_law_57 9).trans dk_j9)
theorem dL_law_922 : decode cL_law 922 = .ok (.iadd, 1) := dk_96 ((dQ_L_law_57 10).trans dk_j10)
theorem dL_law_923 : decode cL_law 923 = .ok (.iaload, 1) := dk_46 ((dQ_L_law_57 11).trans dk_j11)
theorem dL_law_924 : decode cL_law 924 = .ok (.invokevirtual 116, 3) := dk_182 ((dQ_L_law_57 12).trans dk_j12) ((dQ_L_law_57 13).trans dk_j13) ((dQ_L_law_57 14).trans dk_j14) dk_vu2_0_116
theorem dL_law_927 : decode cL_law 927 = .ok (.pop, 1) := dk_87 ((dQ_L_law_57 15).trans dk_j15)
theorem dk_vs2_4_220 : Reader.signed 16 ((0x04 : UInt8).toNat * 256 + (0xdc : UInt8).toNat) = (1244 : Int) := by decide +kernel
theorem dL_law_928 : decode cL_law 928 = .ok (.goto 1244, 3) := dk_167 ((dQ_L_law_58 0).trans dk_j0) ((dQ_L_law_58 1).trans dk_j1) ((dQ_L_law_58 2).trans dk_j2) dk_vs2_4_220
theorem dL_law_931 : decode cL_law 931 = .ok (.aload_n 1, 1) := dk_43 ((dQ_L_law_58 3).trans dk_j3)
theorem dL_law_932 : decode cL_law 932 = .ok (.invokevirtual 117, 3) := dk_182 ((dQ_L_law_58 4).trans dk_j4) ((dQ_L_law_58 5).trans dk_j5) ((dQ_L_law_58 6).trans dk_j6) dk_vu2_0_117
theorem dL_law_935 : decode cL_law 935 = .ok (.pop, 1) := dk_87 ((dQ_L_law_58 7).trans dk_j7)
theorem dL_law_936 : decode cL_law 936 = .ok (.aload_n 2, 1) := dk_44 ((dQ_L_law_58 8).trans dk_j8)
theorem dk_vu2_0_120 : (0x00 : UInt8).toNat * 256 + (0x78 : UInt8).toNat = (120 : Nat) := by decide +kernel
theorem dL_law_937 : decode cL_law 937 = .ok (.invokevirtual 120, 3) := dk_182 ((dQ_L_law_58 9).trans dk_j9) ((dQ_L_law_58 10).trans dk_j10) ((dQ_L_law_58 11).trans dk_j11) dk_vu2_0_120
theorem dL_law_940 : decode cL_law 940 = .ok (.pop, 1) := dk_87 ((dQ_L_law_58 12).trans dk_j12)
theorem dk_vs2_4_207 : Reader.signed 16 ((0x04 : UInt8).toNat * 256 + (0xcf : UInt8).toNat) = (1231 : Int) := by decide +kernel
theorem dL_law_941 : decode cL_law 941 = .ok (.goto 1231, 3) := dk_167 ((dQ_L_law_58 13).trans dk_j13) ((dQ_L_law_58 14).trans dk_j14) ((dQ_L_law_58 15).trans dk_j15) dk_vs2_4_207
theorem dL_law_944 : decode cL_law 944 = .ok (.aload_n 1, 1) := dk_43 ((dQ_L_law_59 0).trans dk_j0)
theorem dL_law_945 : decode cL_law 945 = .ok (.aload_n 0, 1) := dk_42 ((dQ_L_law_59 1).trans dk_j1)
theorem dL_law_946 : decode cL_law 946 = .ok (.iload_n 3, 1) := dk_29 ((dQ_L_law_59 2).trans dk_j2)
theorem dL_law_947 : decode cL_law 947 = .ok (.iconst 1, 1) := dk_4 ((dQ_L_law_59 3).trans dk_j3)
theorem dL_law_948 : decode cL_law 948 = .ok (.iadd, 1) := dk_96 ((dQ_L_law_59 4).trans dk_j4)
theorem dL_law_949 : decode cL_law 949 = .ok (.iaload, 1) := dk_46 ((dQ_L_law_59 5).trans dk_j5)
theorem dL_law_950 : decode cL_law 950 = .ok (.invokevirtual 121, 3) := dk_182 ((dQ_L_law_59 6).trans dk_j6) ((dQ_L_law_59 7).trans dk_j7) ((dQ_L_law_59 8).trans dk_j8) dk_vu2_0_121
theorem dL_law_953 : decode cL_law 953 = .ok (.pop, 1) := dk_87 ((dQ_L_law_59 9).trans dk_j9)
theorem dL_law_954 : decode cL_law 954 = .ok (.aload_n 2, 1) := dk_44 ((dQ_L_law_59 10).trans dk_j10)
theorem dL_law_955 : decode cL_law 955 = .ok (.aload_n 0, 1) := dk_42 ((dQ_L_law_59 11).trans dk_j11)
theorem dL_law_956 : decode cL_law 956 = .ok (.iload_n 3, 1) := dk_29 ((dQ_L_law_59 12).trans dk_j12)
theorem dL_law_957 : decode cL_law 957 = .ok (.iconst 1, 1) := dk_4 ((dQ_L_law_59 13).trans dk_j13)
theorem dL_law_958 : decode cL_law 958 = .ok (.iadd, 1) := dk_96 ((dQ_L_law_59 14).trans dk_j14)
theorem dL_law_959 : decode cL_law 959 = .ok (.iaload, 1) := dk_46 ((dQ_L_law_59 15).trans dk_j15)
theorem dk_vu2_0_124 : (0x00 : UInt8).toNat * 256 + (0x7c : UInt8).toNat = (124 : Nat) := by decide +kernel
theorem dL_law_960 : decode cL_law 960 = .ok (.invokevirtual 124, 3) := dk_182 ((dQ_L_law_60 0).trans dk_j0) ((dQ_L_law_60 1).trans dk_j1) ((dQ_L_law_60 2).trans dk_j2) dk_vu2_0_124
theorem dL_law_963 : decode cL_law 963 = .ok (.pop, 1) := dk_87 ((dQ_L_law_60 3).trans dk_j3)
theorem dk_vs2_4_184 : Reader.signed 16 ((0x04 : UInt8).toNat * 256 + (0xb8 : UInt8).toNat) = (1208 : Int) := by decide +kernel
theorem dL_law_964 : decode cL_law 964 = .ok (.goto 1208, 3) := dk_167 ((dQ_L_law_60 4).trans dk_j4) ((dQ_L_law_60 5).trans dk_j5) ((dQ_L_law_60 6).trans dk_j6) dk_vs2_4_184
theorem dL_law_967 : decode cL_law 967 = .ok (.aload_n 1, 1) := dk_43 ((dQ_L_law_60 7).trans dk_j7)
theorem dL_law_968 : decode cL_law 968 = .ok (.aload_n 0, 1) := dk_42 ((dQ_L_law_60 8).trans dk_j8)
theorem dL_law_969 : decode cL_law 969 = .ok (.iload_n 3, 1) := dk_29 ((dQ_L_law_60 9).trans dk_j9)
theorem dL_law_970 : decode cL_law 970 = .ok (.iconst 1, 1) := dk_4 ((dQ_L_law_60 10).trans dk_j10)
theorem dL_law_971 : decode cL_law 971 = .ok (.iadd, 1) := dk_96 ((dQ_L_law_60 11).trans dk_j11)
theorem dL_law_972 : decode cL_law 972 = .ok (.iaload, 1) := dk_46 ((dQ_L_law_60 12).trans dk_j12)
theorem dL_law_973 : decode cL_law 973 = .ok (.invokevirtual 125, 3) := dk_182 ((dQ_L_law_60 13).trans dk_j13) ((dQ_L_law_60 14).trans dk_j14) ((dQ_L_law_60 15).trans dk_j15) dk_vu2_0_125
theorem dL_law_976 : decode cL_law 976 = .ok (.pop, 1) := dk_87 ((dQ_L_law_61 0).trans dk_j0)
theorem dL_law_977 : decode cL_law 977 = .ok (.aload_n 2, 1) := dk_44 ((dQ_L_law_61 1).trans dk_j1)
theorem dL_law_978 : decode cL_law 978 = .ok (.aload_n 0, 1) := dk_42 ((dQ_L_law_61 2).trans dk_j2)
theorem dL_law_979 : decode cL_law 979 = .ok (.iload_n 3, 1) := dk_29 ((dQ_L_law_61 3).trans dk_j3)
theorem dL_law_980 : decode cL_law 980 = .ok (.iconst 1, 1) := dk_4 ((dQ_L_law_61 4).trans dk_j4)
theorem dL_law_981 : decode cL_law 981 = .ok (.iadd, 1) := dk_96 ((dQ_L_law_61 5).trans dk_j5)
theorem dL_law_982 : decode cL_law 982 = .ok (.iaload, 1) := dk_46 ((dQ_L_law_61 6).trans dk_j6)
theorem dL_law_983 : decode cL_law 983 = .ok (.invokevirtual 128, 3) := dk_182 ((dQ_L_law_61 7).trans dk_j7) ((dQ_L_law_61 8).trans dk_j8) ((dQ_L_law_61 9).trans dk_j9) dk_vu2_0_128
theorem dL_law_986 : decode cL_law 986 = .ok (.pop, 1) := dk_87 ((dQ_L_law_61 10).trans dk_j10)
theorem dk_vs2_4_161 : Reader.signed 16 ((0x04 : UInt8).toNat * 256 + (0xa1 : UInt8).toNat) = (1185 : Int) := by decide +kernel
theorem dL_law_987 : decode cL_law 987 = .ok (.goto 1185, 3) := dk_167 ((dQ_L_law_61 11).trans dk_j11) ((dQ_L_law_61 12).trans dk_j12) ((dQ_L_law_61 13).trans dk_j13) dk_vs2_4_161
theorem dL_law_990 : decode cL_law 990 = .ok (.aload_n 1, 1) := dk_43 ((dQ_L_law_61 14).trans dk_j14)
theorem dk_vu2_0_129 : (0x00 : UInt8).toNat * 256 + (0x81 : UInt8).toNat = (129 : Nat) := by decide +kernel
theorem dL_law_991 : decode cL_law 991 = .ok (.invokevirtual 129, 3) := dk_182 ((dQ_L_law_61 15).trans dk_j15) ((dQ_L_law_62 0).trans dk_j0) ((dQ_L_law_62 1).trans dk_j1) dk_vu2_0_129
theorem dL_law_994 : decode cL_law 994 = .ok (.pop, 1) := dk_87 ((dQ_L_law_62 2).trans dk_j2)
theorem dL_law_995 : decode cL_law 995 = .ok (.aload_n 2, 1) := dk_44 ((dQ_L_law_62 3).trans dk_j3)
theorem dk_vu2_0_132 : (0x00 : UInt8).toNat * 256 + (0x84 : UInt8).toNat = (132 : Nat) := by decide +kernel
theorem dL_law_996 : decode cL_law 996 = .ok (.invokevirtual 132, 3) := dk_182 ((dQ_L_law_62 4).trans dk_j4) ((dQ_L_law_62 5).trans dk_j5) ((dQ_L_law_62 6).trans dk_j6) dk_vu2_0_132
theorem dL_law_999 : decode cL_law 999 = .ok (.pop, 1) := dk_87 ((dQ_L_law_62 7).trans dk_j7)
theorem dk_vs2_4_148 : Reader.signed 16 ((0x04 : UInt8).toNat * 256 + (0x94 : UInt8).toNat) = (1172 : Int) := by decide +kernel
theorem dL_law_1000 : decode cL_law 1000 = .ok (.goto 1172, 3) := dk_167 ((dQ_L_law_62 8).trans dk_j8) ((dQ_L_law_62 9).trans dk_j9) ((dQ_L_law_62 10).trans dk_j10) dk_vs2_4_148
theorem dL_law_1003 : decode cL_law 1003 = .ok (.aload_n 1, 1) := dk_43 ((dQ_L_law_62 11).trans dk_j11)
theorem dL_law_1004 : decode cL_law 1004 = .ok (.aload_n 0, 1) := dk_42 ((dQ_L_law_62 12).trans dk_j12)
theorem dL_law_1005 : decode cL_law 1005 = .ok (.iload_n 3, 1) := dk_29 ((dQ_L_law_62 13).trans dk_j13)
theorem dL_law_1006 : decode cL_law 1006 = .ok (.iconst 1, 1) := dk_4 ((dQ_L_law_62 14).trans dk_j14)
theorem dL_law_1007 : decode cL_law 1007 = .ok (.iadd, 1) := dk_96 ((dQ_L_law_62 15).trans dk_j15)
theorem dL_law_1008 : decode cL_law 1008 = .ok (.iaload, 1) := dk_46 ((dQ_L_law_63 0).trans dk_j0)
theorem dk_vu2_0_133 : (0x00 : UInt8).toNat * 256 + (0x85 : UInt8).toNat = (133 : Nat) := by decide +kernel
theorem dL_law_1009 : decode cL_law 1009 = .ok (.invokevirtual 133, 3) := dk_182 ((dQ_L_law_63 1).trans dk_j1) ((dQ_L_law_63 2).trans dk_j2) ((dQ_L_law_63 3).trans dk_j3) dk_vu2_0_133
theorem dL_law_1012 : decode cL_law 1012 = .ok (.pop, 1) := dk_87 ((dQ_L_law_63 4).trans dk_j4)
theorem dL_law_1013 : decode cL_law 1013 = .ok (.aload_n 2, 1) := dk_44 ((dQ_L_law_63 5).trans dk_j5)
theorem dL_law_1014 : decode cL_law 1014 = .ok (.aload_n 0, 1) := dk_42 ((dQ_L_law_63 6).trans dk_j6)
theorem dL_law_1015 : decode cL_law 1015 = .ok (.iload_n 3, 1) := dk_29 ((dQ_L_law_63 7).trans dk_j7)
theorem dL_law_1016 : decode cL_law 1016 = .ok (.iconst 1, 1) := dk_4 ((dQ_L_law_63 8).trans dk_j8)
theorem dL_law_1017 : decode cL_law 1017 = .ok (.iadd, 1) := dk_96 ((dQ_L_law_63 9).trans dk_j9)
theorem dL_law_1018 : decode cL_law 1018 = .ok (.iaload, 1) := dk_46 ((dQ_L_law_63 10).trans dk_j10)
theorem dk_vu2_0_136 : (0x00 : UInt8).toNat * 256 + (0x88 : UInt8).toNat = (136 : Nat) := by decide +kernel
theorem dL_law_1019 : decode cL_law 1019 = .ok (.invokevirtual 136, 3) := dk_182 ((dQ_L_law_63 11).trans dk_j11) ((dQ_L_law_63 12).trans dk_j12) ((dQ_L_law_63 13).trans dk_j13) dk_vu2_0_136
theorem dL_law_1022 : decode cL_law 1022 = .ok (.pop, 1) := dk_87 ((dQ_L_law_63 14).trans dk_j14)
theorem dk_vs2_4_125 : Reader.signed 16 ((0x04 : UInt8).toNat * 256 + (0x7d : UInt8).toNat) = (1149 : Int) := by decide +kernel
theorem dL_law_1023 : decode cL_law 1023 = .ok (.goto 1149, 3) := dk_167 ((dQ_L_law_63 15).trans dk_j15) ((dQ_L_law_64 0).trans dk_j0) ((dQ_L_law_64 1).trans dk_j1) dk_vs2_4_125
theorem dL_law_1026 : decode cL_law 1026 = .ok (.aload_n 1, 1) := dk_43 ((dQ_L_law_64 2).trans dk_j2)
theorem dL_law_1027 : decode cL_law 1027 = .ok (.aload_n 0, 1) := dk_42 ((dQ_L_law_64 3).trans dk_j3)
theorem dL_law_1028 : decode cL_law 1028 = .ok (.iload_n 3, 1) := dk_29 ((dQ_L_law_64 4).trans dk_j4)
theorem dL_law_1029 : decode cL_law 1029 = .ok (.iconst 1, 1) := dk_4 ((dQ_L_law_64 5).trans dk_j5)
theorem dL_law_1030 : decode cL_law 1030 = .ok (.iadd, 1) := dk_96 ((dQ_L_law_64 6).trans dk_j6)
theorem dL_law_1031 : decode cL_law 1031 = .ok (.iaload, 1) := dk_46 ((dQ_L_law_64 7).trans dk_j7)
theorem dL_law_1032 : decode cL_law 1032 = .ok (.invokevirtual 137, 3) := dk_182 ((dQ_L_law_64 8).trans dk_j8) ((dQ_L_law_64 9).trans dk_j9) ((dQ_L_law_64 10).trans dk_j10) dk_vu2_0_137
theorem dL_law_1035 : decode cL_law 1035 = .ok (.pop, 1) := dk_87 ((dQ_L_law_64 11).trans dk_j11)
theorem dL_law_1036 : decode cL_law 1036 = .ok (.aload_n 2, 1) := dk_44 ((dQ_L_law_64 12).trans dk_j12)
theorem dL_law_1037 : decode cL_law 1037 = .ok (.aload_n 0, 1) := dk_42 ((dQ_L_law_64 13).trans dk_j13)
theorem dL_law_1038 : decode cL_law 1038 = .ok (.iload_n 3, 1) := dk_29 ((dQ_L_law_64 14).trans dk_j14)
theorem dL_law_1039 : decode cL_law 1039 = .ok (.iconst 1, 1) := dk_4 ((dQ_L_law_64 15).trans dk_j15)
theorem dL_law_1040 : decode cL_law 1040 = .ok (.iadd, 1) := dk_96 ((dQ_L_law_65 0).trans dk_j0)
theorem dL_law_1041 : decode cL_law 1041 = .ok (.iaload, 1) := dk_46 ((dQ_L_law_65 1).trans dk_j1)
theorem dL_law_1042 : decode cL_law 1042 = .ok (.invokevirtual 140, 3) := dk_182 ((dQ_L_law_65 2).trans dk_j2) ((dQ_L_law_65 3).trans dk_j3) ((dQ_L_law_65 4).trans dk_j4) dk_vu2_0_140
theorem dL_law_1045 : decode cL_law 1045 = .ok (.pop, 1) := dk_87 ((dQ_L_law_65 5).trans dk_j5)
theorem dk_vs2_4_102 : Reader.signed 16 ((0x04 : UInt8).toNat * 256 + (0x66 : UInt8).toNat) = (1126 : Int) := by decide +kernel
theorem dL_law_1046 : decode cL_law 1046 = .ok (.goto 1126, 3) := dk_167 ((dQ_L_law_65 6).trans dk_j6) ((dQ_L_law_65 7).trans dk_j7) ((dQ_L_law_65 8).trans dk_j8) dk_vs2_4_102
theorem dL_law_1049 : decode cL_law 1049 = .ok (.aload_n 1, 1) := dk_43 ((dQ_L_law_65 9).trans dk_j9)
theorem dL_law_1050 : decode cL_law 1050 = .ok (.aload_n 0, 1) := dk_42 ((dQ_L_law_65 10).trans dk_j10)
theorem dL_law_1051 : decode cL_law 1051 = .ok (.iload_n 3, 1) := dk_29 ((dQ_L_law_65 11).trans dk_j11)
theorem dL_law_1052 : decode cL_law 1052 = .ok (.iconst 1, 1) := dk_4 ((dQ_L_law_65 12).trans dk_j12)
theorem dL_law_1053 : decode cL_law 1053 = .ok (.iadd, 1) := dk_96 ((dQ_L_law_65 13).trans dk_j13)
theorem dL_law_1054 : decode cL_law 1054 = .ok (.iaload, 1) := dk_46 ((dQ_L_law_65 14).trans dk_j14)
theorem dL_law_1055 : decode cL_law 1055 = .ok (.invokevirtual 141, 3) := dk_182 ((dQ_L_law_65 15).trans dk_j15) ((dQ_L_law_66 0).trans dk_j0) ((dQ_L_law_66 1).trans dk_j1) dk_vu2_0_141
theorem dL_law_1058 : decode cL_law 1058 = .ok (.pop, 1) := dk_87 ((dQ_L_law_66 2).trans dk_j2)
theorem dL_law_1059 : decode cL_law 1059 = .ok (.aload_n 2, 1) := dk_44 ((dQ_L_law_66 3).trans dk_j3)
theorem dL_law_1060 : decode cL_law 1060 = .ok (.aload_n 0, 1) := dk_42 ((dQ_L_law_66 4).trans dk_j4)
theorem dL_law_1061 : decode cL_law 1061 = .ok (.iload_n 3, 1) := dk_29 ((dQ_L_law_66 5).trans dk_j5)
theorem dL_law_1062 : decode cL_law 1062 = .ok (.iconst 1, 1) := dk_4 ((dQ_L_law_66 6).trans dk_j6)
theorem dL_law_1063 : decode cL_law 1063 = .ok (.iadd, 1) := dk_96 ((dQ_L_law_66 7).trans dk_j7)
theorem dL_law_1064 : decode cL_law 1064 = .ok (.iaload, 1) := dk_46 ((dQ_L_law_66 8).trans dk_j8)
theorem dL_law_1065 : decode cL_law 1065 = .ok (.invokevirtual 144, 3) := dk_182 ((dQ_L_law_66 9).trans dk_j9) ((dQ_L_law_66 10).trans dk_j10) ((dQ_L_law_66 11).trans dk_j11) dk_vu2_0_144
theorem dL_law_1068 : decode cL_law 1068 = .ok (.pop, 1) := dk_87 ((dQ_L_law_66 12).trans dk_j12)
theorem dk_vs2_4_79 : Reader.signed 16 ((0x04 : UInt8).toNat * 256 + (0x4f : UInt8).toNat) = (1103 : Int) := by decide +kernel
theorem dL_law_1069 : decode cL_law 1069 = .ok (.goto 1103, 3) := dk_167 ((dQ_L_law_66 13).trans dk_j13) ((dQ_L_law_66 14).trans dk_j14) ((dQ_L_law_66 15).trans dk_j15) dk_vs2_4_79
theorem dL_law_1072 : decode cL_law 1072 = .ok (.aload_n 1, 1) := dk_43 ((dQ_L_law_67 0).trans dk_j0)
theorem dL_law_1073 : decode cL_law 1073 = .ok (.aload_n 0, 1) := dk_42 ((dQ_L_law_67 1).trans dk_j1)
theorem dL_law_1074 : decode cL_law 1074 = .ok (.iload_n 3, 1) := dk_29 ((dQ_L_law_67 2).trans dk_j2)
theorem dL_law_1075 : decode cL_law 1075 = .ok (.iconst 1, 1) := dk_4 ((dQ_L_law_67 3).trans dk_j3)
theorem dL_law_1076 : decode cL_law 1076 = .ok (.iadd, 1) := dk_96 ((dQ_L_law_67 4).trans dk_j4)
theorem dL_law_1077 : decode cL_law 1077 = .ok (.iaload, 1) := dk_46 ((dQ_L_law_67 5).trans dk_j5)
theorem dL_law_1078 : decode cL_law 1078 = .ok (.invokevirtual 145, 3) := dk_182 ((dQ_L_law_67 6).trans dk_j6) ((dQ_L_law_67 7).trans dk_j7) ((dQ_L_law_67 8).trans dk_j8) dk_vu2_0_145
theorem dL_law_1081 : decode cL_law 1081 = .ok (.pop, 1) := dk_87 ((dQ_L_law_67 9).trans dk_j9)
theorem dL_law_1082 : decode cL_law 1082 = .ok (.aload_n 2, 1) := dk_44 ((dQ_L_law_67 10).trans dk_j10)
theorem dL_law_1083 : decode cL_law 1083 = .ok (.aload_n 0, 1) := dk_42 ((dQ_L_law_67 11).trans dk_j11)
theorem dL_law_1084 : decode cL_law 1084 = .ok (.iload_n 3, 1) := dk_29 ((dQ_L_law_67 12).trans dk_j12)
theorem dL_law_1085 : decode cL_law 1085 = .ok (.iconst 1, 1) := dk_4 ((dQ_L_law_67 13).trans dk_j13)
theorem dL_law_1086 : decode cL_law 1086 = .ok (.iadd, 1) := dk_96 ((dQ_L_law_67 14).trans dk_j14)
theorem dL_law_1087 : decode cL_law 1087 = .ok (.iaload, 1) := dk_46 ((dQ_L_law_67 15).trans dk_j15)
theorem dL_law_1088 : decode cL_law 1088 = .ok (.invokevirtual 148, 3) := dk_182 ((dQ_L_law_68 0).trans dk_j0) ((dQ_L_law_68 1).trans dk_j1) ((dQ_L_law_68 2).trans dk_j2) dk_vu2_0_148
theorem dL_law_1091 : decode cL_law 1091 = .ok (.pop, 1) := dk_87 ((dQ_L_law_68 3).trans dk_j3)
theorem dk_vs2_4_56 : Reader.signed 16 ((0x04 : UInt8).toNat * 256 + (0x38 : UInt8).toNat) = (1080 : Int) := by decide +kernel
theorem dL_law_1092 : decode cL_law 1092 = .ok (.goto 1080, 3) := dk_167 ((dQ_L_law_68 4).trans dk_j4) ((dQ_L_law_68 5).trans dk_j5) ((dQ_L_law_68 6).trans dk_j6) dk_vs2_4_56
theorem dL_law_1095 : decode cL_law 1095 = .ok (.aload_n 1, 1) := dk_43 ((dQ_L_law_68 7).trans dk_j7)
theorem dk_vu2_0_149 : (0x00 : UInt8).toNat * 256 + (0x95 : UInt8).toNat = (149 : Nat) := by decide +kernel
theorem dL_law_1096 : decode cL_law 1096 = .ok (.invokevirtual 149, 3) := dk_182 ((dQ_L_law_68 8).trans dk_j8) ((dQ_L_law_68 9).trans dk_j9) ((dQ_L_law_68 10).trans dk_j10) dk_vu2_0_149
theorem dL_law_1099 : decode cL_law 1099 = .ok (.pop, 1) := dk_87 ((dQ_L_law_68 11).trans dk_j11)
theorem dL_law_1100 : decode cL_law 1100 = .ok (.aload_n 2, 1) := dk_44 ((dQ_L_law_68 12).trans dk_j12)
theorem dk_vu2_0_152 : (0x00 : UInt8).toNat * 256 + (0x98 : UInt8).toNat = (152 : Nat) := by decide +kernel
theorem dL_law_1101 : decode cL_law 1101 = .ok (.invokevirtual 152, 3) := dk_182 ((dQ_L_law_68 13).trans dk_j13) ((dQ_L_law_68 14).trans dk_j14) ((dQ_L_law_68 15).trans dk_j15) dk_vu2_0_152
theorem dL_law_1104 : decode cL_law 1104 = .ok (.pop, 1) := dk_87 ((dQ_L_law_69 0).trans dk_j0)
theorem dk_vs2_4_43 : Reader.signed 16 ((0x04 : UInt8).toNat * 256 + (0x2b : UInt8).toNat) = (1067 : Int) := by decide +kernel
theorem dL_law_1105 : decode cL_law 1105 = .ok (.goto 1067, 3) := dk_167 ((dQ_L_law_69 1).trans dk_j1) ((dQ_L_law_69 2).trans dk_j2) ((dQ_L_law_69 3).trans dk_j3) dk_vs2_4_43
theorem dL_law_1108 : decode cL_law 1108 = .ok (.aload_n 1, 1) := dk_43 ((dQ_L_law_69 4).trans dk_j4)
theorem dL_law_1109 : decode cL_law 1109 = .ok (.aload_n 0, 1) := dk_42 ((dQ_L_law_69 5).trans dk_j5)
theorem dL_law_1110 : decode cL_law 1110 = .ok (.iload_n 3, 1) := dk_29 ((dQ_L_law_69 6).trans dk_j6)
theorem dL_law_1111 : decode cL_law 1111 = .ok (.iconst 1, 1) := dk_4 ((dQ_L_law_69 7).trans dk_j7)
theorem dL_law_1112 : decode cL_law 1112 = .ok (.iadd, 1) := dk_96 ((dQ_L_law_69 8).trans dk_j8)
theorem dL_law_1113 : decode cL_law 1113 = .ok (.iaload, 1) := dk_46 ((dQ_L_law_69 9).trans dk_j9)
theorem dk_vu2_0_153 : (0x00 : UInt8).toNat * 256 + (0x99 : UInt8).toNat = (153 : Nat) := by decide +kernel
theorem dL_law_1114 : decode cL_law 1114 = .ok (.invokevirtual 153, 3) := dk_182 ((dQ_L_law_69 10).trans dk_j10) ((dQ_L_law_69 11).trans dk_j11) ((dQ_L_law_69 12).trans dk_j12) dk_vu2_0_153
theorem dL_law_1117 : decode cL_law 1117 = .ok (.pop, 1) := dk_87 ((dQ_L_law_69 13).trans dk_j13)
theorem dL_law_1118 : decode cL_law 1118 = .ok (.aload_n 2, 1) := dk_44 ((dQ_L_law_69 14).trans dk_j14)
theorem dL_law_1119 : decode cL_law 1119 = .ok (.aload_n 0, 1) := dk_42 ((dQ_L_law_69 15).trans dk_j15)
theorem dL_law_1120 : decode cL_law 1120 = .ok (.iload_n 3, 1) := dk_29 ((dQ_L_law_70 0).trans dk_j0)
theorem dL_law_1121 : decode cL_law 1121 = .ok (.iconst 1, 1) := dk_4 ((dQ_L_law_70 1).trans dk_j1)
theorem dL_law_1122 : decode cL_law 1122 = .ok (.iadd, 1) := dk_96 ((dQ_L_law_70 2).trans dk_j2)
theorem dL_law_1123 : decode cL_law 1123 = .ok (.iaload, 1) := dk_46 ((dQ_L_law_70 3).trans dk_j3)
theorem dk_vu2_0_156 : (0x00 : UInt8).toNat * 256 + (0x9c : UInt8).toNat = (156 : Nat) := by decide +kernel
theorem dL_law_1124 : decode cL_law 1124 = .ok (.invokevirtual 156, 3) := dk_182 ((dQ_L_law_70 4).trans dk_j4) ((dQ_L_law_70 5).trans dk_j5) ((dQ_L_law_70 6).trans dk_j6) dk_vu2_0_156
theorem dL_law_1127 : decode cL_law 1127 = .ok (.pop, 1) := dk_87 ((dQ_L_law_70 7).trans dk_j7)
theorem dk_vs2_4_20 : Reader.signed 16 ((0x04 : UInt8).toNat * 256 + (0x14 : UInt8).toNat) = (1044 : Int) := by decide +kernel
theorem dL_law_1128 : decode cL_law 1128 = .ok (.goto 1044, 3) := dk_167 ((dQ_L_law_70 8).trans dk_j8) ((dQ_L_law_70 9).trans dk_j9) ((dQ_L_law_70 10).trans dk_j10) dk_vs2_4_20
theorem dL_law_1131 : decode cL_law 1131 = .ok (.aload_n 1, 1) := dk_43 ((dQ_L_law_70 11).trans dk_j11)
theorem dk_vu2_0_157 : (0x00 : UInt8).toNat * 256 + (0x9d : UInt8).toNat = (157 : Nat) := by decide +kernel
theorem dL_law_1132 : decode cL_law 1132 = .ok (.invokevirtual 157, 3) := dk_182 ((dQ_L_law_70 12).trans dk_j12) ((dQ_L_law_70 13).trans dk_j13) ((dQ_L_law_70 14).trans dk_j14) dk_vu2_0_157
theorem dL_law_1135 : decode cL_law 1135 = .ok (.pop, 1) := dk_87 ((dQ_L_law_70 15).trans dk_j15)
theorem dL_law_1136 : decode cL_law 1136 = .ok (.aload_n 2, 1) := dk_44 ((dQ_L_law_71 0).trans dk_j0)
theorem dk_vu2_0_160 : (0x00 : UInt8).toNat * 256 + (0xa0 : UInt8).toNat = (160 : Nat) := by decide +kernel
theorem dL_law_1137 : decode cL_law 1137 = .ok (.invokevirtual 160, 3) := dk_182 ((dQ_L_law_71 1).trans dk_j1) ((dQ_L_law_71 2).trans dk_j2) ((dQ_L_law_71 3).trans dk_j3) dk_vu2_0_160
theorem dL_law_1140 : decode cL_law 1140 = .ok (.pop, 1) := dk_87 ((dQ_L_law_71 4).trans dk_j4)
theorem dk_vs2_4_7 : Reader.signed 16 ((0x04 : UInt8).toNat * 256 + (0x07 : UInt8).toNat) = (1031 : Int) := by decide +kernel
theorem dL_law_1141 : decode cL_law 1141 = .ok (.goto 1031, 3) := dk_167 ((dQ_L_law_71 5).trans dk_j5) ((dQ_L_law_71 6).trans dk_j6) ((dQ_L_law_71 7).trans dk_j7) dk_vs2_4_7
theorem dL_law_1144 : decode cL_law 1144 = .ok (.aload_n 1, 1) := dk_43 ((dQ_L_law_71 8).trans dk_j8)
theorem dL_law_1145 : decode cL_law 1145 = .ok (.invokevirtual 161, 3) := dk_182 ((dQ_L_law_71 9).trans dk_j9) ((dQ_L_law_71 10).trans dk_j10) ((dQ_L_law_71 11).trans dk_j11) dk_vu2_0_161
theorem dL_law_1148 : decode cL_law 1148 = .ok (.pop, 1) := dk_87 ((dQ_L_law_71 12).trans dk_j12)
theorem dL_law_1149 : decode cL_law 1149 = .ok (.aload_n 2, 1) := dk_44 ((dQ_L_law_71 13).trans dk_j13)
theorem dL_law_1150 : decode cL_law 1150 = .ok (.invokevirtual 164, 3) := dk_182 ((dQ_L_law_71 14).trans dk_j14) ((dQ_L_law_71 15).trans dk_j15) ((dQ_L_law_72 0).trans dk_j0) dk_vu2_0_164
theorem dL_law_1153 : decode cL_law 1153 = .ok (.pop, 1) := dk_87 ((dQ_L_law_72 1).trans dk_j1)
theorem dk_vs2_3_250 : Reader.signed 16 ((0x03 : UInt8).toNat * 256 + (0xfa : UInt8).toNat) = (1018 : Int) := by decide +kernel
theorem dL_law_1154 : decode cL_law 1154 = .ok (.goto 1018, 3) := dk_167 ((dQ_L_law_72 2).trans dk_j2) ((dQ_L_law_72 3).trans dk_j3) ((dQ_L_law_72 4).trans dk_j4) dk_vs2_3_250
theorem dL_law_1157 : decode cL_law 1157 = .ok (.aload_n 1, 1) := dk_43 ((dQ_L_law_72 5).trans dk_j5)
theorem dL_law_1158 : decode cL_law 1158 = .ok (.invokevirtual 165, 3) := dk_182 ((dQ_L_law_72 6).trans dk_j6) ((dQ_L_law_72 7).trans dk_j7) ((dQ_L_law_72 8).trans dk_j8) dk_vu2_0_165
theorem dL_law_1161 : decode cL_law 1161 = .ok (.pop, 1) := dk_87 ((dQ_L_law_72 9).trans dk_j9)
theorem dL_law_1162 : decode cL_law 1162 = .ok (.aload_n 2, 1) := dk_44 ((dQ_L_law_72 10).trans dk_j10)
theorem dL_law_1163 : decode cL_law 1163 = .ok (.invokevirtual 168, 3) := dk_182 ((dQ_L_law_72 11).trans dk_j11) ((dQ_L_law_72 12).trans dk_j12) ((dQ_L_law_72 13).trans dk_j13) dk_vu2_0_168
theorem dL_law_1166 : decode cL_law 1166 = .ok (.pop, 1) := dk_87 ((dQ_L_law_72 14).trans dk_j14)
theorem dk_vs2_3_237 : Reader.signed 16 ((0x03 : UInt8).toNat * 256 + (0xed : UInt8).toNat) = (1005 : Int) := by decide +kernel
theorem dL_law_1167 : decode cL_law 1167 = .ok (.goto 1005, 3) := dk_167 ((dQ_L_law_72 15).trans dk_j15) ((dQ_L_law_73 0).trans dk_j0) ((dQ_L_law_73 1).trans dk_j1) dk_vs2_3_237
theorem dL_law_1170 : decode cL_law 1170 = .ok (.aload_n 1, 1) := dk_43 ((dQ_L_law_73 2).trans dk_j2)
theorem dL_law_1171 : decode cL_law 1171 = .ok (.aload_n 0, 1) := dk_42 ((dQ_L_law_73 3).trans dk_j3)
theorem dL_law_1172 : decode cL_law 1172 = .ok (.iload_n 3, 1) := dk_29 ((dQ_L_law_73 4).trans dk_j4)
theorem dL_law_1173 : decode cL_law 1173 = .ok (.iconst 1, 1) := dk_4 ((dQ_L_law_73 5).trans dk_j5)
theorem dL_law_1174 : decode cL_law 1174 = .ok (.iadd, 1) := dk_96 ((dQ_L_law_73 6).trans dk_j6)
theorem dL_law_1175 : decode cL_law 1175 = .ok (.iaload, 1) := dk_46 ((dQ_L_law_73 7).trans dk_j7)
theorem dk_vu2_0_169 : (0x00 : UInt8).toNat * 256 + (0xa9 : UInt8).toNat = (169 : Nat) := by decide +kernel
theorem dL_law_1176 : decode cL_law 1176 = .ok (.invokevirtual 169, 3) := dk_182 ((dQ_L_law_73 8).trans dk_j8) ((dQ_L_law_73 9).trans dk_j9) ((dQ_L_law_73 10).trans dk_j10) dk_vu2_0_169
theorem dL_law_1179 : decode cL_law 1179 = .ok (.pop, 1) := dk_87 ((dQ_L_law_73 11).trans dk_j11)
theorem dL_law_1180 : decode cL_law 1180 = .ok (.aload_n 2, 1) := dk_44 ((dQ_L_law_73 12).trans dk_j12)
theorem dL_law_1181 : decode cL_law 1181 = .ok (.aload_n 0, 1) := dk_42 ((dQ_L_law_73 13).trans dk_j13)
theorem dL_law_1182 : decode cL_law 1182 = .ok (.iload_n 3, 1) := dk_29 ((dQ_L_law_73 14).trans dk_j14)
theorem dL_law_1183 : decode cL_law 1183 = .ok (.iconst 1, 1) := dk_4 ((dQ_L_law_73 15).trans dk_j15)
theorem dL_law_1184 : decode cL_law 1184 = .ok (.iadd, 1) := dk_96 ((dQ_L_law_74 0).trans dk_j0)
theorem dL_law_1185 : decode cL_law 1185 = .ok (.iaload, 1) := dk_46 ((dQ_L_law_74 1).trans dk_j1)
theorem dL_law_1186 : decode cL_law 1186 = .ok (.invokevirtual 172, 3) := dk_182 ((dQ_L_law_74 2).trans dk_j2) ((dQ_L_law_74 3).trans dk_j3) ((dQ_L_law_74 4).trans dk_j4) dk_vu2_0_172
theorem dL_law_1189 : decode cL_law 1189 = .ok (.pop, 1) := dk_87 ((dQ_L_law_74 5).trans dk_j5)
theorem dk_vs2_3_214 : Reader.signed 16 ((0x03 : UInt8).toNat * 256 + (0xd6 : UInt8).toNat) = (982 : Int) := by decide +kernel
theorem dL_law_1190 : decode cL_law 1190 = .ok (.goto 982, 3) := dk_167 ((dQ_L_law_74 6).trans dk_j6) ((dQ_L_law_74 7).trans dk_j7) ((dQ_L_law_74 8).trans dk_j8) dk_vs2_3_214
theorem dL_law_1193 : decode cL_law 1193 = .ok (.aload_n 1, 1) := dk_43 ((dQ_L_law_74 9).trans dk_j9)
theorem dk_vu2_0_173 : (0x00 : UInt8).toNat * 256 + (0xad : UInt8).toNat = (173 : Nat) := by decide +kernel
theorem dL_law_1194 : decode cL_law 1194 = .ok (.invokevirtual 173, 3) := dk_182 ((dQ_L_law_74 10).trans dk_j10) ((dQ_L_law_74 11).trans dk_j11) ((dQ_L_law_74 12).trans dk_j12) dk_vu2_0_173
theorem dL_law_1197 : decode cL_law 1197 = .ok (.pop, 1) := dk_87 ((dQ_L_law_74 13).trans dk_j13)
theorem dL_law_1198 : decode cL_law 1198 = .ok (.aload_n 2, 1) := dk_44 ((dQ_L_law_74 14).trans dk_j14)
theorem dk_vu2_0_176 : (0x00 : UInt8).toNat * 256 + (0xb0 : UInt8).toNat = (176 : Nat) := by decide +kernel
theorem dL_law_1199 : decode cL_law 1199 = .ok (.invokevirtual 176, 3) := dk_182 ((dQ_L_law_74 15).trans dk_j15) ((dQ_L_law_75 0).trans dk_j0) ((dQ_L_law_75 1).trans dk_j1) dk_vu2_0_176
theorem dL_law_1202 : decode cL_law 1202 = .ok (.pop, 1) := dk_87 ((dQ_L_law_75 2).trans dk_j2)
theorem dk_vs2_3_201 : Reader.signed 16 ((0x03 : UInt8).toNat * 256 + (0xc9 : UInt8).toNat) = (969 : Int) := by decide +kernel
theorem dL_law_1203 : decode cL_law 1203 = .ok (.goto 969, 3) := dk_167 ((dQ_L_law_75 3).trans dk_j3) ((dQ_L_law_75 4).trans dk_j4) ((dQ_L_law_75 5).trans dk_j5) dk_vs2_3_201
theorem dL_law_1206 : decode cL_law 1206 = .ok (.aload_n 1, 1) := dk_43 ((dQ_L_law_75 6).trans dk_j6)
theorem dL_law_1207 : decode cL_law 1207 = .ok (.aload_n 0, 1) := dk_42 ((dQ_L_law_75 7).trans dk_j7)
theorem dL_law_1208 : decode cL_law 1208 = .ok (.iload_n 3, 1) := dk_29 ((dQ_L_law_75 8).trans dk_j8)
theorem dL_law_1209 : decode cL_law 1209 = .ok (.iconst 1, 1) := dk_4 ((dQ_L_law_75 9).trans dk_j9)
theorem dL_law_1210 : decode cL_law 1210 = .ok (.iadd, 1) := dk_96 ((dQ_L_law_75 10).trans dk_j10)
theorem dL_law_1211 : decode cL_law 1211 = .ok (.iaload, 1) := dk_46 ((dQ_L_law_75 11).trans dk_j11)
theorem dL_law_1212 : decode cL_law 1212 = .ok (.invokevirtual 177, 3) := dk_182 ((dQ_L_law_75 12).trans dk_j12) ((dQ_L_law_75 13).trans dk_j13) ((dQ_L_law_75 14).trans dk_j14) dk_vu2_0_177
theorem dL_law_1215 : decode cL_law 1215 = .ok (.pop, 1) := dk_87 ((dQ_L_law_75 15).trans dk_j15)
theorem dL_law_1216 : decode cL_law 1216 = .ok (.aload_n 2, 1) := dk_44 ((dQ_L_law_76 0).trans dk_j0)
theorem dL_law_1217 : decode cL_law 1217 = .ok (.aload_n 0, 1) := dk_42 ((dQ_L_law_76 1).trans dk_j1)
theorem dL_law_1218 : decode cL_law 1218 = .ok (.iload_n 3, 1) := dk_29 ((dQ_L_law_76 2).trans dk_j2)
theorem dL_law_1219 : decode cL_law 1219 = .ok (.iconst 1, 1) := dk_4 ((dQ_L_law_76 3).trans dk_j3)
theorem dL_law_1220 : decode cL_law 1220 = .ok (.iadd, 1) := dk_96 ((dQ_L_law_76 4).trans dk_j4)
theorem dL_law_1221 : decode cL_law 1221 = .ok (.iaload, 1) := dk_46 ((dQ_L_law_76 5).trans dk_j5)
theorem dL_law_1222 : decode cL_law 1222 = .ok (.invokevirtual 180, 3) := dk_182 ((dQ_L_law_76 6).trans dk_j6) ((dQ_L_law_76 7).trans dk_j7) ((dQ_L_law_76 8).trans dk_j8) dk_vu2_0_180
theorem dL_law_1225 : decode cL_law 1225 = .ok (.pop, 1) := dk_87 ((dQ_L_law_76 9).trans dk_j9)
theorem dk_vs2_3_178 : Reader.signed 16 ((0x03 : UInt8).toNat * 256 + (0xb2 : UInt8).toNat) = (946 : Int) := by decide +kernel
theorem dL_law_1226 : decode cL_law 1226 = .ok (.goto 946, 3) := dk_167 ((dQ_L_law_76 10).trans dk_j10) ((dQ_L_law_76 11).trans dk_j11) ((dQ_L_law_76 12).trans dk_j12) dk_vs2_3_178
theorem dL_law_1229 : decode cL_law 1229 = .ok (.aload_n 1, 1) := dk_43 ((dQ_L_law_76 13).trans dk_j13)
theorem dL_law_1230 : decode cL_law 1230 = .ok (.aload_n 0, 1) := dk_42 ((dQ_L_law_76 14).trans dk_j14)
theorem dL_law_1231 : decode cL_law 1231 = .ok (.iload_n 3, 1) := dk_29 ((dQ_L_law_76 15).trans dk_j15)
theorem dL_law_1232 : decode cL_law 1232 = .ok (.iconst 1, 1) := dk_4 ((dQ_L_law_77 0).trans dk_j0)
theorem dL_law_1233 : decode cL_law 1233 = .ok (.iadd, 1) := dk_96 ((dQ_L_law_77 1).trans dk_j1)
theorem dL_law_1234 : decode cL_law 1234 = .ok (.iaload, 1) := dk_46 ((dQ_L_law_77 2).trans dk_j2)
theorem dk_vu2_0_181 : (0x00 : UInt8).toNat * 256 + (0xb5 : UInt8).toNat = (181 : Nat) := by decide +kernel
theorem dL_law_1235 : decode cL_law 1235 = .ok (.invokevirtual 181, 3) := dk_182 ((dQ_L_law_77 3).trans dk_j3) ((dQ_L_law_77 4).trans dk_j4) ((dQ_L_law_77 5).trans dk_j5) dk_vu2_0_181
theorem dL_law_1238 : decode cL_law 1238 = .ok (.pop, 1) := dk_87 ((dQ_L_law_77 6).trans dk_j6)
theorem dL_law_1239 : decode cL_law 1239 = .ok (.aload_n 2, 1) := dk_44 ((dQ_L_law_77 7).trans dk_j7)
theorem dL_law_1240 : decode cL_law 1240 = .ok (.aload_n 0, 1) := dk_42 ((dQ_L_law_77 8).trans dk_j8)
theorem dL_law_1241 : decode cL_law 1241 = .ok (.iload_n 3, 1) := dk_29 ((dQ_L_law_77 9).trans dk_j9)
theorem dL_law_1242 : decode cL_law 1242 = .ok (.iconst 1, 1) := dk_4 ((dQ_L_law_77 10).trans dk_j10)
theorem dL_law_1243 : decode cL_law 1243 = .ok (.iadd, 1) := dk_96 ((dQ_L_law_77 11).trans dk_j11)
theorem dL_law_1244 : decode cL_law 1244 = .ok (.iaload, 1) := dk_46 ((dQ_L_law_77 12).trans dk_j12)
theorem dk_vu2_0_184 : (0x00 : UInt8).toNat * 256 + (0xb8 : UInt8).toNat = (184 : Nat) := by decide +kernel
theorem dL_law_1245 : decode cL_law 1245 = .ok (.invokevirtual 184, 3) := dk_182 ((dQ_L_law_77 13).trans dk_j13) ((dQ_L_law_77 14).trans dk_j14) ((dQ_L_law_77 15).trans dk_j15) dk_vu2_0_184
theorem dL_law_1248 : decode cL_law 1248 = .ok (.pop, 1) := dk_87 ((dQ_L_law_78 0).trans dk_j0)
theorem dk_vs2_3_155 : Reader.signed 16 ((0x03 : UInt8).toNat * 256 + (0x9b : UInt8).toNat) = (923 : Int) := by decide +kernel
theorem dL_law_1249 : decode cL_law 1249 = .ok (.goto 923, 3) := dk_167 ((dQ_L_law_78 1).trans dk_j1) ((dQ_L_law_78 2).trans dk_j2) ((dQ_L_law_78 3).trans dk_j3) dk_vs2_3_155
theorem dL_law_1252 : decode cL_law 1252 = .ok (.aload_n 1, 1) := dk_43 ((dQ_L_law_78 4).trans dk_j4)
theorem dL_law_1253 : decode cL_law 1253 = .ok (.aload_n 0, 1) := dk_42 ((dQ_L_law_78 5).trans dk_j5)
theorem dL_law_1254 : decode cL_law 1254 = .ok (.iload_n 3, 1) := dk_29 ((dQ_L_law_78 6).trans dk_j6)
theorem dL_law_1255 : decode cL_law 1255 = .ok (.iconst 1, 1) := dk_4 ((dQ_L_law_78 7).trans dk_j7)
theorem dL_law_1256 : decode cL_law 1256 = .ok (.iadd, 1) := dk_96 ((dQ_L_law_78 8).trans dk_j8)
theorem dL_law_1257 : decode cL_law 1257 = .ok (.iaload, 1) := dk_46 ((dQ_L_law_78 9).trans dk_j9)
theorem dk_vu2_0_185 : (0x00 : UInt8).toNat * 256 + (0xb9 : UInt8).toNat = (185 : Nat) := by decide +kernel
theorem dL_law_1258 : decode cL_law 1258 = .ok (.invokevirtual 185, 3) := dk_182 ((dQ_L_law_78 10).trans dk_j10) ((dQ_L_law_78 11).trans dk_j11) ((dQ_L_law_78 12).trans dk_j12) dk_vu2_0_185
theorem dL_law_1261 : decode cL_law 1261 = .ok (.pop, 1) := dk_87 ((dQ_L_law_78 13).trans dk_j13)
theorem dL_law_1262 : decode cL_law 1262 = .ok (.aload_n 2, 1) := dk_44 ((dQ_L_law_78 14).trans dk_j14)
theorem dL_law_1263 : decode cL_law 1263 = .ok (.aload_n 0, 1) := dk_42 ((dQ_L_law_78 15).trans dk_j15)
theorem dL_law_1264 : decode cL_law 1264 = .ok (.iload_n 3, 1) := dk_29 ((dQ_L_law_79 0).trans dk_j0)
theorem dL_law_1265 : decode cL_law 1265 = .ok (.iconst 1, 1) := dk_4 ((dQ_L_law_79 1).trans dk_j1)
theorem dL_law_1266 : decode cL_law 1266 = .ok (.iadd, 1) := dk_96 ((dQ_L_law_79 2).trans dk_j2)
theorem dL_law_1267 : decode cL_law 1267 = .ok (.iaload, 1) := dk_46 ((dQ_L_law_79 3).trans dk_j3)
theorem dk_vu2_0_188 : (0x00 : UInt8).toNat * 256 + (0xbc : UInt8).toNat = (188 : Nat) := by decide +kernel
theorem dL_law_1268 : decode cL_law 1268 = .ok (.invokevirtual 188, 3) := dk_182 ((dQ_L_law_79 4).trans dk_j4) ((dQ_L_law_79 5).trans dk_j5) ((dQ_L_law_79 6).trans dk_j6) dk_vu2_0_188
theorem dL_law_1271 : decode cL_law 1271 = .ok (.pop, 1) := dk_87 ((dQ_L_law_79 7).trans dk_j7)
theorem dL_law_1272 : decode cL_law 1272 = .ok (.goto 900, 3) := dk_167 ((dQ_L_law_79 8).trans dk_j8) ((dQ_L_law_79 9).trans dk_j9) ((dQ_L_law_79 10).trans dk_j10) dk_vs2_3_132
theorem dL_law_1275 : decode cL_law 1275 = .ok (.aload_n 1, 1) := dk_43 ((dQ_L_law_79 11).trans dk_j11)
theorem dL_law_1276 : decode cL_law 1276 = .ok (.aload_n 0, 1) := dk_42 ((dQ_L_law_79 12).trans dk_j12)
theorem dL_law_1277 : decode cL_law 1277 = .ok (.iload_n 3, 1) := dk_29 ((dQ_L_law_79 13).trans dk_j13)
theorem dL_law_1278 : decode cL_law 1278 = .ok (.iconst 1, 1) := dk_4 ((dQ_L_law_79 14).trans dk_j14)
theorem dL_law_1279 : decode cL_law 1279 = .ok (.iadd, 1) := dk_96 ((dQ_L_law_79 15).trans dk_j15)
theorem dL_law_1280 : decode cL_law 1280 = .ok (.iaload, 1) := dk_46 ((dQ_L_law_80 0).trans dk_j0)
theorem dL_law_1281 : decode cL_law 1281 = .ok (.invokevirtual 189, 3) := dk_182 ((dQ_L_law_80 1).trans dk_j1) ((dQ_L_law_80 2).trans dk_j2) ((dQ_L_law_80 3).trans dk_j3) dk_vu2_0_189
theorem dL_law_1284 : decode cL_law 1284 = .ok (.pop, 1) := dk_87 ((dQ_L_law_80 4).trans dk_j4)
theorem dL_law_1285 : decode cL_law 1285 = .ok (.aload_n 2, 1) := dk_44 ((dQ_L_law_80 5).trans dk_j5)
theorem dL_law_1286 : decode cL_law 1286 = .ok (.aload_n 0, 1) := dk_42 ((dQ_L_law_80 6).trans dk_j6)
theorem dL_law_1287 : decode cL_law 1287 = .ok (.iload_n 3, 1) := dk_29 ((dQ_L_law_80 7).trans dk_j7)
theorem dL_law_1288 : decode cL_law 1288 = .ok (.iconst 1, 1) := dk_4 ((dQ_L_law_80 8).trans dk_j8)
theorem dL_law_1289 : decode cL_law 1289 = .ok (.iadd, 1) := dk_96 ((dQ_L_law_80 9).trans dk_j9)
theorem dL_law_1290 : decode cL_law 1290 = .ok (.iaload, 1) := dk_46 ((dQ_L_law_80 10).trans dk_j10)
theorem dL_law_1291 : decode cL_law 1291 = .ok (.invokevirtual 192, 3) := dk_182 ((dQ_L_law_80 11).trans dk_j11) ((dQ_L_law_80 12).trans dk_j12) ((dQ_L_law_80 13).trans dk_j13) dk_vu2_0_192
theorem dL_law_1294 : decode cL_law 1294 = .ok (.pop, 1) := dk_87 ((dQ_L_law_80 14).trans dk_j14)
theorem dk_vs2_3_109 : Reader.signed 16 ((0x03 : UInt8).toNat * 256 + (0x6d : UInt8).toNat) = (877 : Int) := by decide +kernel
theorem dL_law_1295 : decode cL_law 1295 = .ok (.goto 877, 3) := dk_167 ((dQ_L_law_80 15).trans dk_j15) ((dQ_L_law_81 0).trans dk_j0) ((dQ_L_law_81 1).trans dk_j1) dk_vs2_3_109
theorem dL_law_1298 : decode cL_law 1298 = .ok (.aload_n 1, 1) := dk_43 ((dQ_L_law_81 2).trans dk_j2)
theorem dL_law_1299 : decode cL_law 1299 = .ok (.aload_n 0, 1) := dk_42 ((dQ_L_law_81 3).trans dk_j3)
theorem dL_law_1300 : decode cL_law 1300 = .ok (.iload_n 3, 1) := dk_29 ((dQ_L_law_81 4).trans dk_j4)
theorem dL_law_1301 : decode cL_law 1301 = .ok (.iconst 1, 1) := dk_4 ((dQ_L_law_81 5).trans dk_j5)
theorem dL_law_1302 : decode cL_law 1302 = .ok (.iadd, 1) := dk_96 ((dQ_L_law_81 6).trans dk_j6)
theorem dL_law_1303 : decode cL_law 1303 = .ok (.iaload, 1) := dk_46 ((dQ_L_law_81 7).trans dk_j7)
theorem dk_vu2_0_193 : (0x00 : UInt8).toNat * 256 + (0xc1 : UInt8).toNat = (193 : Nat) := by decide +kernel
theorem dL_law_1304 : decode cL_law 1304 = .ok (.invokevirtual 193, 3) := dk_182 ((dQ_L_law_81 8).trans dk_j8) ((dQ_L_law_81 9).trans dk_j9) ((dQ_L_law_81 10).trans dk_j10) dk_vu2_0_193
theorem dL_law_1307 : decode cL_law 1307 = .ok (.pop, 1) := dk_87 ((dQ_L_law_81 11).trans dk_j11)
theorem dL_law_1308 : decode cL_law 1308 = .ok (.aload_n 2, 1) := dk_44 ((dQ_L_law_81 12).trans dk_j12)
theorem dL_law_1309 : decode cL_law 1309 = .ok (.aload_n 0, 1) := dk_42 ((dQ_L_law_81 13).trans dk_j13)
theorem dL_law_1310 : decode cL_law 1310 = .ok (.iload_n 3, 1) := dk_29 ((dQ_L_law_81 14).trans dk_j14)
theorem dL_law_1311 : decode cL_law 1311 = .ok (.iconst 1, 1) := dk_4 ((dQ_L_law_81 15).trans dk_j15)
theorem dL_law_1312 : decode cL_law 1312 = .ok (.iadd, 1) := dk_96 ((dQ_L_law_82 0).trans dk_j0)
theorem dL_law_1313 : decode cL_law 1313 = .ok (.iaload, 1) := dk_46 ((dQ_L_law_82 1).trans dk_j1)
theorem dL_law_1314 : decode cL_law 1314 = .ok (.invokevirtual 196, 3) := dk_182 ((dQ_L_law_82 2).trans dk_j2) ((dQ_L_law_82 3).trans dk_j3) ((dQ_L_law_82 4).trans dk_j4) dk_vu2_0_196
theorem dL_law_1317 : decode cL_law 1317 = .ok (.pop, 1) := dk_87 ((dQ_L_law_82 5).trans dk_j5)
theorem dk_vs2_3_86 : Reader.signed 16 ((0x03 : UInt8).toNat * 256 + (0x56 : UInt8).toNat) = (854 : Int) := by decide +kernel
theorem dL_law_1318 : decode cL_law 1318 = .ok (.goto 854, 3) := dk_167 ((dQ_L_law_82 6).trans dk_j6) ((dQ_L_law_82 7).trans dk_j7) ((dQ_L_law_82 8).trans dk_j8) dk_vs2_3_86
theorem dL_law_1321 : decode cL_law 1321 = .ok (.aload_n 1, 1) := dk_43 ((dQ_L_law_82 9).trans dk_j9)
theorem dL_law_1322 : decode cL_law 1322 = .ok (.aload_n 0, 1) := dk_42 ((dQ_L_law_82 10).trans dk_j10)
theorem dL_law_1323 : decode cL_law 1323 = .ok (.iload_n 3, 1) := dk_29 ((dQ_L_law_82 11).trans dk_j11)
theorem dL_law_1324 : decode cL_law 1324 = .ok (.iconst 1, 1) := dk_4 ((dQ_L_law_82 12).trans dk_j12)
theorem dL_law_1325 : decode cL_law 1325 = .ok (.iadd, 1) := dk_96 ((dQ_L_law_82 13).trans dk_j13)
theorem dL_law_1326 : decode cL_law 1326 = .ok (.iaload, 1) := dk_46 ((dQ_L_law_82 14).trans dk_j14)
theorem dk_vu2_0_197 : (0x00 : UInt8).toNat * 256 + (0xc5 : UInt8).toNat = (197 : Nat) := by decide +kernel
theorem dL_law_1327 : decode cL_law 1327 = .ok (.invokevirtual 197, 3) := dk_182 ((dQ_L_law_82 15).trans dk_j15) ((dQ_L_law_83 0).trans dk_j0) ((dQ_L_law_83 1).trans dk_j1) dk_vu2_0_197
theorem dL_law_1330 : decode cL_law 1330 = .ok (.pop, 1) := dk_87 ((dQ_L_law_83 2).trans dk_j2)
theorem dL_law_1331 : decode cL_law 1331 = .ok (.aload_n 2, 1) := dk_44 ((dQ_L_law_83 3).trans dk_j3)
theorem dL_law_1332 : decode cL_law 1332 = .ok (.aload_n 0, 1) := dk_42 ((dQ_L_law_83 4).trans dk_j4)
theorem dL_law_1333 : decode cL_law 1333 = .ok (.iload_n 3, 1) := dk_29 ((dQ_L_law_83 5).trans dk_j5)
theorem dL_law_1334 : decode cL_law 1334 = .ok (.iconst 1, 1) := dk_4 ((dQ_L_law_83 6).trans dk_j6)
theorem dL_law_1335 : decode cL_law 1335 = .ok (.iadd, 1) := dk_96 ((dQ_L_law_83 7).trans dk_j7)
theorem dL_law_1336 : decode cL_law 1336 = .ok (.iaload, 1) := dk_46 ((dQ_L_law_83 8).trans dk_j8)
theorem dk_vu2_0_200 : (0x00 : UInt8).toNat * 256 + (0xc8 : UInt8).toNat = (200 : Nat) := by decide +kernel
theorem dL_law_1337 : decode cL_law 1337 = .ok (.invokevirtual 200, 3) := dk_182 ((dQ_L_law_83 9).trans dk_j9) ((dQ_L_law_83 10).trans dk_j10) ((dQ_L_law_83 11).trans dk_j11) dk_vu2_0_200
theorem dL_law_1340 : decode cL_law 1340 = .ok (.pop, 1) := dk_87 ((dQ_L_law_83 12).trans dk_j12)
theorem dk_vs2_3_63 : Reader.signed 16 ((0x03 : UInt8).toNat * 256 + (0x3f : UInt8).toNat) = (831 : Int) := by decide +kernel
theorem dL_law_1341 : decode cL_law 1341 = .ok (.goto 831, 3) := dk_167 ((dQ_L_law_83 13).trans dk_j13) ((dQ_L_law_83 14).trans dk_j14) ((dQ_L_law_83 15).trans dk_j15) dk_vs2_3_63
theorem dL_law_1344 : decode cL_law 1344 = .ok (.aload_n 1, 1) := dk_43 ((dQ_L_law_84 0).trans dk_j0)
theorem dL_law_1345 : decode cL_law 1345 = .ok (.aload_n 0, 1) := dk_42 ((dQ_L_law_84 1).trans dk_j1)
theorem dL_law_1346 : decode cL_law 1346 = .ok (.iload_n 3, 1) := dk_29 ((dQ_L_law_84 2).trans dk_j2)
theorem dL_law_1347 : decode cL_law 1347 = .ok (.iconst 1, 1) := dk_4 ((dQ_L_law_84 3).trans dk_j3)
theorem dL_law_1348 : decode cL_law 1348 = .ok (.iadd, 1) := dk_96 ((dQ_L_law_84 4).trans dk_j4)
theorem dL_law_1349 : decode cL_law 1349 = .ok (.iaload, 1) := dk_46 ((dQ_L_law_84 5).trans dk_j5)
theorem dk_vu2_0_201 : (0x00 : UInt8).toNat * 256 + (0xc9 : UInt8).toNat = (201 : Nat) := by decide +kernel
theorem dL_law_1350 : decode cL_law 1350 = .ok (.invokevirtual 201, 3) := dk_182 ((dQ_L_law_84 6).trans dk_j6) ((dQ_L_law_84 7).trans dk_j7) ((dQ_L_law_84 8).trans dk_j8) dk_vu2_0_201
theorem dL_law_1353 : decode cL_law 1353 = .ok (.pop, 1) := dk_87 ((dQ_L_law_84 9).trans dk_j9)
theorem dL_law_1354 : decode cL_law 1354 = .ok (.aload_n 2, 1) := dk_44 ((dQ_L_law_84 10).trans dk_j10)
theorem dL_law_1355 : decode cL_law 1355 = .ok (.aload_n 0, 1) := dk_42 ((dQ_L_law_84 11).trans dk_j11)
theorem dL_law_1356 : decode cL_law 1356 = .ok (.iload_n 3, 1) := dk_29 ((dQ_L_law_84 12).trans dk_j12)
theorem dL_law_1357 : decode cL_law 1357 = .ok (.iconst 1, 1) := dk_4 ((dQ_L_law_84 13).trans dk_j13)
theorem dL_law_1358 : decode cL_law 1358 = .ok (.iadd, 1) := dk_96 ((dQ_L_law_84 14).trans dk_j14)
theorem dL_law_1359 : decode cL_law 1359 = .ok (.iaload, 1) := dk_46 ((dQ_L_law_84 15).trans dk_j15)
theorem dk_vu2_0_204 : (0x00 : UInt8).toNat * 256 + (0xcc : UInt8).toNat = (204 : Nat) := by decide +kernel
theorem dL_law_1360 : decode cL_law 1360 = .ok (.invokevirtual 204, 3) := dk_182 ((dQ_L_law_85 0).trans dk_j0) ((dQ_L_law_85 1).trans dk_j1) ((dQ_L_law_85 2).trans dk_j2) dk_vu2_0_204
theorem dL_law_1363 : decode cL_law 1363 = .ok (.pop, 1) := dk_87 ((dQ_L_law_85 3).trans dk_j3)
theorem dk_vs2_3_40 : Reader.signed 16 ((0x03 : UInt8).toNat * 256 + (0x28 : UInt8).toNat) = (808 : Int) := by decide +kernel
theorem dL_law_1364 : decode cL_law 1364 = .ok (.goto 808, 3) := dk_167 ((dQ_L_law_85 4).trans dk_j4) ((dQ_L_law_85 5).trans dk_j5) ((dQ_L_law_85 6).trans dk_j6) dk_vs2_3_40
theorem dL_law_1367 : decode cL_law 1367 = .ok (.aload_n 1, 1) := dk_43 ((dQ_L_law_85 7).trans dk_j7)
theorem dL_law_1368 : decode cL_law 1368 = .ok (.aload_n 0, 1) := dk_42 ((dQ_L_law_85 8).trans dk_j8)
theorem dL_law_1369 : decode cL_law 1369 = .ok (.iload_n 3, 1) := dk_29 ((dQ_L_law_85 9).trans dk_j9)
theorem dL_law_1370 : decode cL_law 1370 = .ok (.iconst 1, 1) := dk_4 ((dQ_L_law_85 10).trans dk_j10)
theorem dL_law_1371 : decode cL_law 1371 = .ok (.iadd, 1) := dk_96 ((dQ_L_law_85 11).trans dk_j11)
theorem dL_law_1372 : decode cL_law 1372 = .ok (.iaload, 1) := dk_46 ((dQ_L_law_85 12).trans dk_j12)
theorem dL_law_1373 : decode cL_law 1373 = .ok (.invokevirtual 205, 3) := dk_182 ((dQ_L_law_85 13).trans dk_j13) ((dQ_L_law_85 14).trans dk_j14) ((dQ_L_law_85 15).trans dk_j15) dk_vu2_0_205
theorem dL_law_1376 : decode cL_law 1376 = .ok (.pop, 1) := dk_87 ((dQ_L_law_86 0).trans dk_j0)
theorem dL_law_1377 : decode cL_law 1377 = .ok (.aload_n 2, 1) := dk_44 ((dQ_L_law_86 1).trans dk_j1)
theorem dL_law_1378 : decode cL_law 1378 = .ok (.aload_n 0, 1) := dk_42 ((dQ_L_law_86 2).trans dk_j2)
theorem dL_law_1379 : decode cL_law 1379 = .ok (.iload_n 3, 1) := dk_29 ((dQ_L_law_86 3).trans dk_j3)
theorem dL_law_1380 : decode cL_law 1380 = .ok (.iconst 1, 1) := dk_4 ((dQ_L_law_86 4).trans dk_j4)
theorem dL_law_1381 : decode cL_law 1381 = .ok (.iadd, 1) := dk_96 ((dQ_L_law_86 5).trans dk_j5)
theorem dL_law_1382 : decode cL_law 1382 = .ok (.iaload, 1) := dk_46 ((dQ_L_law_86 6).trans dk_j6)
theorem dL_law_1383 : decode cL_law 1383 = .ok (.invokevirtual 208, 3) := dk_182 ((dQ_L_law_86 7).trans dk_j7) ((dQ_L_law_86 8).trans dk_j8) ((dQ_L_law_86 9).trans dk_j9) dk_vu2_0_208
theorem dL_law_1386 : decode cL_law 1386 = .ok (.pop, 1) := dk_87 ((dQ_L_law_86 10).trans dk_j10)
theorem dk_vs2_3_17 : Reader.signed 16 ((0x03 : UInt8).toNat * 256 + (0x11 : UInt8).toNat) = (785 : Int) := by decide +kernel
theorem dL_law_1387 : decode cL_law 1387 = .ok (.goto 785, 3) := dk_167 ((dQ_L_law_86 11).trans dk_j11) ((dQ_L_law_86 12).trans dk_j12) ((dQ_L_law_86 13).trans dk_j13) dk_vs2_3_17
theorem dL_law_1390 : decode cL_law 1390 = .ok (.aload_n 1, 1) := dk_43 ((dQ_L_law_86 14).trans dk_j14)
theorem dL_law_1391 : decode cL_law 1391 = .ok (.aload_n 0, 1) := dk_42 ((dQ_L_law_86 15).trans dk_j15)
theorem dL_law_1392 : decode cL_law 1392 = .ok (.iload_n 3, 1) := dk_29 ((dQ_L_law_87 0).trans dk_j0)
theorem dL_law_1393 : decode cL_law 1393 = .ok (.iconst 1, 1) := dk_4 ((dQ_L_law_87 1).trans dk_j1)
theorem dL_law_1394 : decode cL_law 1394 = .ok (.iadd, 1) := dk_96 ((dQ_L_law_87 2).trans dk_j2)
theorem dL_law_1395 : decode cL_law 1395 = .ok (.iaload, 1) := dk_46 ((dQ_L_law_87 3).trans dk_j3)
theorem dL_law_1396 : decode cL_law 1396 = .ok (.invokevirtual 209, 3) := dk_182 ((dQ_L_law_87 4).trans dk_j4) ((dQ_L_law_87 5).trans dk_j5) ((dQ_L_law_87 6).trans dk_j6) dk_vu2_0_209
theorem dL_law_1399 : decode cL_law 1399 = .ok (.pop, 1) := dk_87 ((dQ_L_law_87 7).trans dk_j7)
theorem dL_law_1400 : decode cL_law 1400 = .ok (.aload_n 2, 1) := dk_44 ((dQ_L_law_87 8).trans dk_j8)
theorem dL_law_1401 : decode cL_law 1401 = .ok (.aload_n 0, 1) := dk_42 ((dQ_L_law_87 9).trans dk_j9)
theorem dL_law_1402 : decode cL_law 1402 = .ok (.iload_n 3, 1) := dk_29 ((dQ_L_law_87 10).trans dk_j10)
theorem dL_law_1403 : decode cL_law 1403 = .ok (.iconst 1, 1) := dk_4 ((dQ_L_law_87 11).trans dk_j11)
theorem dL_law_1404 : decode cL_law 1404 = .ok (.iadd, 1) := dk_96 ((dQ_L_law_87 12).trans dk_j12)
theorem dL_law_1405 : decode cL_law 1405 = .ok (.iaload, 1) := dk_46 ((dQ_L_law_87 13).trans dk_j13)
theorem dL_law_1406 : decode cL_law 1406 = .ok (.invokevirtual 212, 3) := dk_182 ((dQ_L_law_87 14).trans dk_j14) ((dQ_L_law_87 15).trans dk_j15) ((dQ_L_law_88 0).trans dk_j0) dk_vu2_0_212
theorem dL_law_1409 : decode cL_law 1409 = .ok (.pop, 1) := dk_87 ((dQ_L_law_88 1).trans dk_j1)
theorem dk_vs2_2_250 : Reader.signed 16 ((0x02 : UInt8).toNat * 256 + (0xfa : UInt8).toNat) = (762 : Int) := by decide +kernel
theorem dL_law_1410 : decode cL_law 1410 = .ok (.goto 762, 3) := dk_167 ((dQ_L_law_88 2).trans dk_j2) ((dQ_L_law_88 3).trans dk_j3) ((dQ_L_law_88 4).trans dk_j4) dk_vs2_2_250
theorem dL_law_1413 : decode cL_law 1413 = .ok (.aload_n 1, 1) := dk_43 ((dQ_L_law_88 5).trans dk_j5)
theorem dL_law_1414 : decode cL_law 1414 = .ok (.aload_n 0, 1) := dk_42 ((dQ_L_law_88 6).trans dk_j6)
theorem dL_law_1415 : decode cL_law 1415 = .ok (.iload_n 3, 1) := dk_29 ((dQ_L_law_88 7).trans dk_j7)
theorem dL_law_1416 : decode cL_law 1416 = .ok (.iconst 1, 1) := dk_4 ((dQ_L_law_88 8).trans dk_j8)
theorem dL_law_1417 : decode cL_law 1417 = .ok (.iadd, 1) := dk_96 ((dQ_L_law_88 9).trans dk_j9)
theorem dL_law_1418 : decode cL_law 1418 = .ok (.iaload, 1) := dk_46 ((dQ_L_law_88 10).trans dk_j10)
theorem dk_vu2_0_213 : (0x00 : UInt8).toNat * 256 + (0xd5 : UInt8).toNat = (213 : Nat) := by decide +kernel
theorem dL_law_1419 : decode cL_law 1419 = .ok (.invokevirtual 213, 3) := dk_182 ((dQ_L_law_88 11).trans dk_j11) ((dQ_L_law_88 12).trans dk_j12) ((dQ_L_law_88 13).trans dk_j13) dk_vu2_0_213
theorem dL_law_1422 : decode cL_law 1422 = .ok (.pop, 1) := dk_87 ((dQ_L_law_88 14).trans dk_j14)
theorem dL_law_1423 : decode cL_law 1423 = .ok (.aload_n 2, 1) := dk_44 ((dQ_L_law_88 15).trans dk_j15)
theorem dL_law_1424 : decode cL_law 1424 = .ok (.aload_n 0, 1) := dk_42 ((dQ_L_law_89 0).trans dk_j0)
theorem dL_law_1425 : decode cL_law 1425 = .ok (.iload_n 3, 1) := dk_29 ((dQ_L_law_89 1).trans dk_j1)
theorem dL_law_1426 : decode cL_law 1426 = .ok (.iconst 1, 1) := dk_4 ((dQ_L_law_89 2).trans dk_j2)
theorem dL_law_1427 : decode cL_law 1427 = .ok (.iadd, 1) := dk_96 ((dQ_L_law_89 3).trans dk_j3)
theorem dL_law_1428 : decode cL_law 1428 = .ok (.iaload, 1) := dk_46 ((dQ_L_law_89 4).trans dk_j4)
theorem dk_vu2_0_216 : (0x00 : UInt8).toNat * 256 + (0xd8 : UInt8).toNat = (216 : Nat) := by decide +kernel
theorem dL_law_1429 : decode cL_law 1429 = .ok (.invokevirtual 216, 3) := dk_182 ((dQ_L_law_89 5).trans dk_j5) ((dQ_L_law_89 6).trans dk_j6) ((dQ_L_law_89 7).trans dk_j7) dk_vu2_0_216
theorem dL_law_1432 : decode cL_law 1432 = .ok (.pop, 1) := dk_87 ((dQ_L_law_89 8).trans dk_j8)
theorem dk_vs2_2_227 : Reader.signed 16 ((0x02 : UInt8).toNat * 256 + (0xe3 : UInt8).toNat) = (739 : Int) := by decide +kernel
theorem dL_law_1433 : decode cL_law 1433 = .ok (.goto 739, 3) := dk_167 ((dQ_L_law_89 9).trans dk_j9) ((dQ_L_law_89 10).trans dk_j10) ((dQ_L_law_89 11).trans dk_j11) dk_vs2_2_227
theorem dL_law_1436 : decode cL_law 1436 = .ok (.aload_n 1, 1) := dk_43 ((dQ_L_law_89 12).trans dk_j12)
theorem dL_law_1437 : decode cL_law 1437 = .ok (.aload_n 0, 1) := dk_42 ((dQ_L_law_89 13).trans dk_j13)
theorem dL_law_1438 : decode cL_law 1438 = .ok (.iload_n 3, 1) := dk_29 ((dQ_L_law_89 14).trans dk_j14)
theorem dL_law_1439 : decode cL_law 1439 = .ok (.iconst 1, 1) := dk_4 ((dQ_L_law_89 15).trans dk_j15)
theorem dL_law_1440 : decode cL_law 1440 = .ok (.iadd, 1) := dk_96 ((dQ_L_law_90 0).trans dk_j0)
theorem dL_law_1441 : decode cL_law 1441 = .ok (.iaload, 1) := dk_46 ((dQ_L_law_90 1).trans dk_j1)
theorem dk_vu2_0_217 : (0x00 : UInt8).toNat * 256 + (0xd9 : UInt8).toNat = (217 : Nat) := by decide +kernel
theorem dL_law_1442 : decode cL_law 1442 = .ok (.invokevirtual 217, 3) := dk_182 ((dQ_L_law_90 2).trans dk_j2) ((dQ_L_law_90 3).trans dk_j3) ((dQ_L_law_90 4).trans dk_j4) dk_vu2_0_217
theorem dL_law_1445 : decode cL_law 1445 = .ok (.pop, 1) := dk_87 ((dQ_L_law_90 5).trans dk_j5)
theorem dL_law_1446 : decode cL_law 1446 = .ok (.aload_n 2, 1) := dk_44 ((dQ_L_law_90 6).trans dk_j6)
theorem dL_law_1447 : decode cL_law 1447 = .ok (.aload_n 0, 1) := dk_42 ((dQ_L_law_90 7).trans dk_j7)
theorem dL_law_1448 : decode cL_law 1448 = .ok (.iload_n 3, 1) := dk_29 ((dQ_L_law_90 8).trans dk_j8)
theorem dL_law_1449 : decode cL_law 1449 = .ok (.iconst 1, 1) := dk_4 ((dQ_L_law_90 9).trans dk_j9)
theorem dL_law_1450 : decode cL_law 1450 = .ok (.iadd, 1) := dk_96 ((dQ_L_law_90 10).trans dk_j10)
theorem dL_law_1451 : decode cL_law 1451 = .ok (.iaload, 1) := dk_46 ((dQ_L_law_90 11).trans dk_j11)
theorem dk_vu2_0_220 : (0x00 : UInt8).toNat * 256 + (0xdc : UInt8).toNat = (220 : Nat) := by decide +kernel
theorem dL_law_1452 : decode cL_law 1452 = .ok (.invokevirtual 220, 3) := dk_182 ((dQ_L_law_90 12).trans dk_j12) ((dQ_L_law_90 13).trans dk_j13) ((dQ_L_law_90 14).trans dk_j14) dk_vu2_0_220
theorem dL_law_1455 : decode cL_law 1455 = .ok (.pop, 1) := dk_87 ((dQ_L_law_90 15).trans dk_j15)
theorem dk_vs2_2_204 : Reader.signed 16 ((0x02 : UInt8).toNat * 256 + (0xcc : UInt8).toNat) = (716 : Int) := by decide +kernel
theorem dL_law_1456 : decode cL_law 1456 = .ok (.goto 716, 3) := dk_167 ((dQ_L_law_91 0).trans dk_j0) ((dQ_L_law_91 1).trans dk_j1) ((dQ_L_law_91 2).trans dk_j2) dk_vs2_2_204
theorem dL_law_1459 : decode cL_law 1459 = .ok (.aload_n 1, 1) := dk_43 ((dQ_L_law_91 3).trans dk_j3)
theorem dL_law_1460 : decode cL_law 1460 = .ok (.aload_n 0, 1) := dk_42 ((dQ_L_law_91 4).trans dk_j4)
theorem dL_law_1461 : decode cL_law 1461 = .ok (.iload_n 3, 1) := dk_29 ((dQ_L_law_91 5).trans dk_j5)
theorem dL_law_1462 : decode cL_law 1462 = .ok (.iconst 1, 1) := dk_4 ((dQ_L_law_91 6).trans dk_j6)
theorem dL_law_1463 : decode cL_law 1463 = .ok (.iadd, 1) := dk_96 ((dQ_L_law_91 7).trans dk_j7)
theorem dL_law_1464 : decode cL_law 1464 = .ok (.iaload, 1) := dk_46 ((dQ_L_law_91 8).trans dk_j8)
theorem dL_law_1465 : decode cL_law 1465 = .ok (.invokevirtual 221, 3) := dk_182 ((dQ_L_law_91 9).trans dk_j9) ((dQ_L_law_91 10).trans dk_j10) ((dQ_L_law_91 11).trans dk_j11) dk_vu2_0_221
theorem dL_law_1468 : decode cL_law 1468 = .ok (.pop, 1) := dk_87 ((dQ_L_law_91 12).trans dk_j12)
theorem dL_law_1469 : decode cL_law 1469 = .ok (.aload_n 2, 1) := dk_44 ((dQ_L_law_91 13).trans dk_j13)
theorem dL_law_1470 : decode cL_law 1470 = .ok (.aload_n 0, 1) := dk_42 ((dQ_L_law_91 14).trans dk_j14)
theorem dL_law_1471 : decode cL_law 1471 = .ok (.iload_n 3, 1) := dk_29 ((dQ_L_law_91 15).trans dk_j15)
theorem dL_law_1472 : decode cL_law 1472 = .ok (.iconst 1, 1) := dk_4 ((dQ_L_law_92 0).trans dk_j0)
theorem dL_law_1473 : decode cL_law 1473 = .ok (.iadd, 1) := dk_96 ((dQ_L_law_92 1).trans dk_j1)
theorem dL_law_1474 : decode cL_law 1474 = .ok (.iaload, 1) := dk_46 ((dQ_L_law_92 2).trans dk_j2)
theorem dL_law_1475 : decode cL_law 1475 = .ok (.invokevirtual 224, 3) := dk_182 ((dQ_L_law_92 3).trans dk_j3) ((dQ_L_law_92 4).trans dk_j4) ((dQ_L_law_92 5).trans dk_j5) dk_vu2_0_224
theorem dL_law_1478 : decode cL_law 1478 = .ok (.pop, 1) := dk_87 ((dQ_L_law_92 6).trans dk_j6)
theorem dk_vs2_2_181 : Reader.signed 16 ((0x02 : UInt8).toNat * 256 + (0xb5 : UInt8).toNat) = (693 : Int) := by decide +kernel
theorem dL_law_1479 : decode cL_law 1479 = .ok (.goto 693, 3) := dk_167 ((dQ_L_law_92 7).trans dk_j7) ((dQ_L_law_92 8).trans dk_j8) ((dQ_L_law_92 9).trans dk_j9) dk_vs2_2_181
theorem dL_law_1482 : decode cL_law 1482 = .ok (.aload_n 1, 1) := dk_43 ((dQ_L_law_92 10).trans dk_j10)
theorem dL_law_1483 : decode cL_law 1483 = .ok (.aload_n 0, 1) := dk_42 ((dQ_L_law_92 11).trans dk_j11)
theorem dL_law_1484 : decode cL_law 1484 = .ok (.iload_n 3, 1) := dk_29 ((dQ_L_law_92 12).trans dk_j12)
theorem dL_law_1485 : decode cL_law 1485 = .ok (.iconst 1, 1) := dk_4 ((dQ_L_law_92 13).trans dk_j13)
theorem dL_law_1486 : decode cL_law 1486 = .ok (.iadd, 1) := dk_96 ((dQ_L_law_92 14).trans dk_j14)
theorem dL_law_1487 : decode cL_law 1487 = .ok (.iaload, 1) := dk_46 ((dQ_L_law_92 15).trans dk_j15)
theorem dL_law_1488 : decode cL_law 1488 = .ok (.aload_n 0, 1) := dk_42 ((dQ_L_law_93 0).trans dk_j0)
theorem dL_law_1489 : decode cL_law 1489 = .ok (.iload_n 3, 1) := dk_29 ((dQ_L_law_93 1).trans dk_j1)
theorem dL_law_1490 : decode cL_law 1490 = .ok (.iconst 2, 1) := dk_5 ((dQ_L_law_93 2).trans dk_j2)
theorem dL_law_1491 : decode cL_law 1491 = .ok (.iadd, 1) := dk_96 ((dQ_L_law_93 3).trans dk_j3)
theorem dL_law_1492 : decode cL_law 1492 = .ok (.iaload, 1) := dk_46 ((dQ_L_law_93 4).trans dk_j4)
theorem dL_law_1493 : decode cL_law 1493 = .ok (.invokevirtual 225, 3) := dk_182 ((dQ_L_law_93 5).trans dk_j5) ((dQ_L_law_93 6).trans dk_j6) ((dQ_L_law_93 7).trans dk_j7) dk_vu2_0_225
theorem dL_law_1496 : decode cL_law 1496 = .ok (.pop, 1) := dk_87 ((dQ_L_law_93 8).trans dk_j8)
theorem dL_law_1497 : decode cL_law 1497 = .ok (.aload_n 2, 1) := dk_44 ((dQ_L_law_93 9).trans dk_j9)
theorem dL_law_1498 : decode cL_law 1498 = .ok (.aload_n 0, 1) := dk_42 ((dQ_L_law_93 10).trans dk_j10)
theorem dL_law_1499 : decode cL_law 1499 = .ok (.iload_n 3, 1) := dk_29 ((dQ_L_law_93 11).trans dk_j11)
theorem dL_law_1500 : decode cL_law 1500 = .ok (.iconst 1, 1) := dk_4 ((dQ_L_law_93 12).trans dk_j12)
theorem dL_law_1501 : decode cL_law 1501 = .ok (.iadd, 1) := dk_96 ((dQ_L_law_93 13).trans dk_j13)
theorem dL_law_1502 : decode cL_law 1502 = .ok (.iaload, 1) := dk_46 ((dQ_L_law_93 14).trans dk_j14)
theorem dL_law_1503 : decode cL_law 1503 = .ok (.aload_n 0, 1) := dk_42 ((dQ_L_law_93 15).trans dk_j15)
theorem dL_law_1504 : decode cL_law 1504 = .ok (.iload_n 3, 1) := dk_29 ((dQ_L_law_94 0).trans dk_j0)
theorem dL_law_1505 : decode cL_law 1505 = .ok (.iconst 2, 1) := dk_5 ((dQ_L_law_94 1).trans dk_j1)
theorem dL_law_1506 : decode cL_law 1506 = .ok (.iadd, 1) := dk_96 ((dQ_L_law_94 2).trans dk_j2)
theorem dL_law_1507 : decode cL_law 1507 = .ok (.iaload, 1) := dk_46 ((dQ_L_law_94 3).trans dk_j3)
theorem dL_law_1508 : decode cL_law 1508 = .ok (.invokevirtual 228, 3) := dk_182 ((dQ_L_law_94 4).trans dk_j4) ((dQ_L_law_94 5).trans dk_j5) ((dQ_L_law_94 6).trans dk_j6) dk_vu2_0_228
theorem dL_law_1511 : decode cL_law 1511 = .ok (.pop, 1) := dk_87 ((dQ_L_law_94 7).trans dk_j7)
theorem dk_vs2_2_148 : Reader.signed 16 ((0x02 : UInt8).toNat * 256 + (0x94 : UInt8).toNat) = (660 : Int) := by decide +kernel
theorem dL_law_1512 : decode cL_law 1512 = .ok (.goto 660, 3) := dk_167 ((dQ_L_law_94 8).trans dk_j8) ((dQ_L_law_94 9).trans dk_j9) ((dQ_L_law_94 10).trans dk_j10) dk_vs2_2_148
theorem dL_law_1515 : decode cL_law 1515 = .ok (.aload_n 1, 1) := dk_43 ((dQ_L_law_94 11).trans dk_j11)
theorem dL_law_1516 : decode cL_law 1516 = .ok (.aload_n 0, 1) := dk_42 ((dQ_L_law_94 12).trans dk_j12)
theorem dL_law_1517 : decode cL_law 1517 = .ok (.iload_n 3, 1) := dk_29 ((dQ_L_law_94 13).trans dk_j13)
theorem dL_law_1518 : decode cL_law 1518 = .ok (.iconst 1, 1) := dk_4 ((dQ_L_law_94 14).trans dk_j14)
theorem dL_law_1519 : decode cL_law 1519 = .ok (.iadd, 1) := dk_96 ((dQ_L_law_94 15).trans dk_j15)
theorem dL_law_1520 : decode cL_law 1520 = .ok (.iaload, 1) := dk_46 ((dQ_L_law_95 0).trans dk_j0)
theorem dL_law_1521 : decode cL_law 1521 = .ok (.aload_n 0, 1) := dk_42 ((dQ_L_law_95 1).trans dk_j1)
theorem dL_law_1522 : decode cL_law 1522 = .ok (.iload_n 3, 1) := dk_29 ((dQ_L_law_95 2).trans dk_j2)
theorem dL_law_1523 : decode cL_law 1523 = .ok (.iconst 2, 1) := dk_5 ((dQ_L_law_95 3).trans dk_j3)
theorem dL_law_1524 : decode cL_law 1524 = .ok (.iadd, 1) := dk_96 ((dQ_L_law_95 4).trans dk_j4)
theorem dL_law_1525 : decode cL_law 1525 = .ok (.iaload, 1) := dk_46 ((dQ_L_law_95 5).trans dk_j5)
theorem dL_law_1526 : decode cL_law 1526 = .ok (.aload_n 0, 1) := dk_42 ((dQ_L_law_95 6).trans dk_j6)
theorem dL_law_1527 : decode cL_law 1527 = .ok (.iload_n 3, 1) := dk_29 ((dQ_L_law_95 7).trans dk_j7)
theorem dL_law_1528 : decode cL_law 1528 = .ok (.iconst 3, 1) := dk_6 ((dQ_L_law_95 8).trans dk_j8)
theorem dL_law_1529 : decode cL_law 1529 = .ok (.iadd, 1) := dk_96 ((dQ_L_law_95 9).trans dk_j9)
theorem dL_law_1530 : decode cL_law 1530 = .ok (.iaload, 1) := dk_46 ((dQ_L_law_95 10).trans dk_j10)
theorem dL_law_1531 : decode cL_law 1531 = .ok (.aload_n 0, 1) := dk_42 ((dQ_L_law_95 11).trans dk_j11)
theorem dL_law_1532 : decode cL_law 1532 = .ok (.iload_n 3, 1) := dk_29 ((dQ_L_law_95 12).trans dk_j12)
theorem dL_law_1533 : decode cL_law 1533 = .ok (.iconst 4, 1) := dk_7 ((dQ_L_law_95 13).trans dk_j13)
theorem dL_law_1534 : decode cL_law 1534 = .ok (.iadd, 1) := dk_96 ((dQ_L_law_95 14).trans dk_j14)
theorem dL_law_1535 : decode cL_law 1535 = .ok (.iaload, 1) := dk_46 ((dQ_L_law_95 15).trans dk_j15)
theorem dk_vu2_0_229 : (0x00 : UInt8).toNat * 256 + (0xe5 : UInt8).toNat = (229 : Nat) := by decide +kernel
theorem dL_law_1536 : decode cL_law 1536 = .ok (.invokevirtual 229, 3) := dk_182 ((dQ_L_law_96 0).trans dk_j0) ((dQ_L_law_96 1).trans dk_j1) ((dQ_L_law_96 2).trans dk_j2) dk_vu2_0_229
theorem dL_law_1539 : decode cL_law 1539 = .ok (.pop, 1) := dk_87 ((dQ_L_law_96 3).trans dk_j3)
theorem dL_law_1540 : decode cL_law 1540 = .ok (.aload_n 2, 1) := dk_44 ((dQ_L_law_96 4).trans dk_j4)
theorem dL_law_1541 : decode cL_law 1541 = .ok (.aload_n 0, 1) := dk_42 ((dQ_L_law_96 5).trans dk_j5)
theorem dL_law_1542 : decode cL_law 1542 = .ok (.iload_n 3, 1) := dk_29 ((dQ_L_law_96 6).trans dk_j6)
theorem dL_law_1543 : decode cL_law 1543 = .ok (.iconst 1, 1) := dk_4 ((dQ_L_law_96 7).trans dk_j7)
theorem dL_law_1544 : decode cL_law 1544 = .ok (.iadd, 1) := dk_96 ((dQ_L_law_96 8).trans dk_j8)
theorem dL_law_1545 : decode cL_law 1545 = .ok (.iaload, 1) := dk_46 ((dQ_L_law_96 9).trans dk_j9)
theorem dL_law_1546 : decode cL_law 1546 = .ok (.aload_n 0, 1) := dk_42 ((dQ_L_law_96 10).trans dk_j10)
theorem dL_law_1547 : decode cL_law 1547 = .ok (.iload_n 3, 1) := dk_29 ((dQ_L_law_96 11).trans dk_j11)
theorem dL_law_1548 : decode cL_law 1548 = .ok (.iconst 2, 1) := dk_5 ((dQ_L_law_96 12).trans dk_j12)
theorem dL_law_1549 : decode cL_law 1549 = .ok (.iadd, 1) := dk_96 ((dQ_L_law_96 13).trans dk_j13)
theorem dL_law_1550 : decode cL_law 1550 = .ok (.iaload, 1) := dk_46 ((dQ_L_law_96 14).trans dk_j14)
theorem dL_law_1551 : decode cL_law 1551 = .ok (.aload_n 0, 1) := dk_42 ((dQ_L_law_96 15).trans dk_j15)
theorem dL_law_1552 : decode cL_law 1552 = .ok (.iload_n 3, 1) := dk_29 ((dQ_L_law_97 0).trans dk_j0)
theorem dL_law_1553 : decode cL_law 1553 = .ok (.iconst 3, 1) := dk_6 ((dQ_L_law_97 1).trans dk_j1)
theorem dL_law_1554 : decode cL_law 1554 = .ok (.iadd, 1) := dk_96 ((dQ_L_law_97 2).trans dk_j2)
theorem dL_law_1555 : decode cL_law 1555 = .ok (.iaload, 1) := dk_46 ((dQ_L_law_97 3).trans dk_j3)
theorem dL_law_1556 : decode cL_law 1556 = .ok (.aload_n 0, 1) := dk_42 ((dQ_L_law_97 4).trans dk_j4)
theorem dL_law_1557 : decode cL_law 1557 = .ok (.iload_n 3, 1) := dk_29 ((dQ_L_law_97 5).trans dk_j5)
theorem dL_law_1558 : decode cL_law 1558 = .ok (.iconst 4, 1) := dk_7 ((dQ_L_law_97 6).trans dk_j6)
theorem dL_law_1559 : decode cL_law 1559 = .ok (.iadd, 1) := dk_96 ((dQ_L_law_97 7).trans dk_j7)
theorem dL_law_1560 : decode cL_law 1560 = .ok (.iaload, 1) := dk_46 ((dQ_L_law_97 8).trans dk_j8)
theorem dk_vu2_0_233 : (0x00 : UInt8).toNat * 256 + (0xe9 : UInt8).toNat = (233 : Nat) := by decide +kernel
theorem dL_law_1561 : decode cL_law 1561 = .ok (.invokevirtual 233, 3) := dk_182 ((dQ_L_law_97 9).trans dk_j9) ((dQ_L_law_97 10).trans dk_j10) ((dQ_L_law_97 11).trans dk_j11) dk_vu2_0_233
theorem dL_law_1564 : decode cL_law 1564 = .ok (.pop, 1) := dk_87 ((dQ_L_law_97 12).trans dk_j12)
theorem dk_vs2_2_95 : Reader.signed 16 ((0x02 : UInt8).toNat * 256 + (0x5f : UInt8).toNat) = (607 : Int) := by decide +kernel
theorem dL_law_1565 : decode cL_law 1565 = .ok (.goto 607, 3) := dk_167 ((dQ_L_law_97 13).trans dk_j13) ((dQ_L_law_97 14).trans dk_j14) ((dQ_L_law_97 15).trans dk_j15) dk_vs2_2_95
theorem dL_law_1568 : decode cL_law 1568 = .ok (.aload_n 1, 1) := dk_43 ((dQ_L_law_98 0).trans dk_j0)
theorem dL_law_1569 : decode cL_law 1569 = .ok (.aload_n 0, 1) := dk_42 ((dQ_L_law_98 1).trans dk_j1)
theorem dL_law_1570 : decode cL_law 1570 = .ok (.iload_n 3, 1) := dk_29 ((dQ_L_law_98 2).trans dk_j2)
theorem dL_law_1571 : decode cL_law 1571 = .ok (.iconst 1, 1) := dk_4 ((dQ_L_law_98 3).trans dk_j3)
theorem dL_law_1572 : decode cL_law 1572 = .ok (.iadd, 1) := dk_96 ((dQ_L_law_98 4).trans dk_j4)
theorem dL_law_1573 : decode cL_law 1573 = .ok (.iaload, 1) := dk_46 ((dQ_L_law_98 5).trans dk_j5)
theorem dL_law_1574 : decode cL_law 1574 = .ok (.invokevirtual 234, 3) := dk_182 ((dQ_L_law_98 6).trans dk_j6) ((dQ_L_law_98 7).trans dk_j7) ((dQ_L_law_98 8).trans dk_j8) dk_vu2_0_234
theorem dL_law_1577 : decode cL_law 1577 = .ok (.pop, 1) := dk_87 ((dQ_L_law_98 9).trans dk_j9)
theorem dL_law_1578 : decode cL_law 1578 = .ok (.aload_n 2, 1) := dk_44 ((dQ_L_law_98 10).trans dk_j10)
theorem dL_law_1579 : decode cL_law 1579 = .ok (.aload_n 0, 1) := dk_42 ((dQ_L_law_98 11).trans dk_j11)
theorem dL_law_1580 : decode cL_law 1580 = .ok (.iload_n 3, 1) := dk_29 ((dQ_L_law_98 12).trans dk_j12)
theorem dL_law_1581 : decode cL_law 1581 = .ok (.iconst 1, 1) := dk_4 ((dQ_L_law_98 13).trans dk_j13)
theorem dL_law_1582 : decode cL_law 1582 = .ok (.iadd, 1) := dk_96 ((dQ_L_law_98 14).trans dk_j14)
theorem dL_law_1583 : decode cL_law 1583 = .ok (.iaload, 1) := dk_46 ((dQ_L_law_98 15).trans dk_j15)
theorem dL_law_1584 : decode cL_law 1584 = .ok (.invokevirtual 237, 3) := dk_182 ((dQ_L_law_99 0).trans dk_j0) ((dQ_L_law_99 1).trans dk_j1) ((dQ_L_law_99 2).trans dk_j2) dk_vu2_0_237
theorem dL_law_1587 : decode cL_law 1587 = .ok (.pop, 1) := dk_87 ((dQ_L_law_99 3).trans dk_j3)
theorem dk_vs2_2_72 : Reader.signed 16 ((0x02 : UInt8).toNat * 256 + (0x48 : UInt8).toNat) = (584 : Int) := by decide +kernel
theorem dL_law_1588 : decode cL_law 1588 = .ok (.goto 584, 3) := dk_167 ((dQ_L_law_99 4).trans dk_j4) ((dQ_L_law_99 5).trans dk_j5) ((dQ_L_law_99 6).trans dk_j6) dk_vs2_2_72
theorem dL_law_1591 : decode cL_law 1591 = .ok (.aload_n 1, 1) := dk_43 ((dQ_L_law_99 7).trans dk_j7)
theorem dL_law_1592 : decode cL_law 1592 = .ok (.invokevirtual 238, 3) := dk_182 ((dQ_L_law_99 8).trans dk_j8) ((dQ_L_law_99 9).trans dk_j9) ((dQ_L_law_99 10).trans dk_j10) dk_vu2_0_238
theorem dL_law_1595 : decode cL_law 1595 = .ok (.pop, 1) := dk_87 ((dQ_L_law_99 11).trans dk_j11)
theorem dL_law_1596 : decode cL_law 1596 = .ok (.aload_n 2, 1) := dk_44 ((dQ_L_law_99 12).trans dk_j12)
theorem dL_law_1597 : decode cL_law 1597 = .ok (.invokevirtual 241, 3) := dk_182 ((dQ_L_law_99 13).trans dk_j13) ((dQ_L_law_99 14).trans dk_j14) ((dQ_L_law_99 15).trans dk_j15) dk_vu2_0_241
theorem dL_law_1600 : decode cL_law 1600 = .ok (.pop, 1) := dk_87 ((dQ_L_law_100 0).trans dk_j0)
theorem dk_vs2_2_59 : Reader.signed 16 ((0x02 : UInt8).toNat * 256 + (0x3b : UInt8).toNat) = (571 : Int) := by decide +kernel
theorem dL_law_1601 : decode cL_law 1601 = .ok (.goto 571, 3) := dk_167 ((dQ_L_law_100 1).trans dk_j1) ((dQ_L_law_100 2).trans dk_j2) ((dQ_L_law_100 3).trans dk_j3) dk_vs2_2_59
theorem dL_law_1604 : decode cL_law 1604 = .ok (.aload_n 1, 1) := dk_43 ((dQ_L_law_100 4).trans dk_j4)
theorem dL_law_1605 : decode cL_law 1605 = .ok (.aload_n 0, 1) := dk_42 ((dQ_L_law_100 5).trans dk_j5)
theorem dL_law_1606 : decode cL_law 1606 = .ok (.iload_n 3, 1) := dk_29 ((dQ_L_law_100 6).trans dk_j6)
theorem dL_law_1607 : decode cL_law 1607 = .ok (.iconst 1, 1) := dk_4 ((dQ_L_law_100 7).trans dk_j7)
theorem dL_law_1608 : decode cL_law 1608 = .ok (.iadd, 1) := dk_96 ((dQ_L_law_100 8).trans dk_j8)
theorem dL_law_1609 : decode cL_law 1609 = .ok (.iaload, 1) := dk_46 ((dQ_L_law_100 9).trans dk_j9)
theorem dL_law_1610 : decode cL_law 1610 = .ok (.aload_n 0, 1) := dk_42 ((dQ_L_law_100 10).trans dk_j10)
theorem dL_law_1611 : decode cL_law 1611 = .ok (.iload_n 3, 1) := dk_29 ((dQ_L_law_100 11).trans dk_j11)
theorem dL_law_1612 : decode cL_law 1612 = .ok (.iconst 2, 1) := dk_5 ((dQ_L_law_100 12).trans dk_j12)
theorem dL_law_1613 : decode cL_law 1613 = .ok (.iadd, 1) := dk_96 ((dQ_L_law_100 13).trans dk_j13)
theorem dL_law_1614 : decode cL_law 1614 = .ok (.iaload, 1) := dk_46 ((dQ_L_law_100 14).trans dk_j14)
theorem dL_law_1615 : decode cL_law 1615 = .ok (.aload_n 0, 1) := dk_42 ((dQ_L_law_100 15).trans dk_j15)
theorem dL_law_1616 : decode cL_law 1616 = .ok (.iload_n 3, 1) := dk_29 ((dQ_L_law_101 0).trans dk_j0)
theorem dL_law_1617 : decode cL_law 1617 = .ok (.iconst 3, 1) := dk_6 ((dQ_L_law_101 1).trans dk_j1)
theorem dL_law_1618 : decode cL_law 1618 = .ok (.iadd, 1) := dk_96 ((dQ_L_law_101 2).trans dk_j2)
theorem dL_law_1619 : decode cL_law 1619 = .ok (.iaload, 1) := dk_46 ((dQ_L_law_101 3).trans dk_j3)
theorem dk_vu2_0_242 : (0x00 : UInt8).toNat * 256 + (0xf2 : UInt8).toNat = (242 : Nat) := by decide +kernel
theorem dL_law_1620 : decode cL_law 1620 = .ok (.invokevirtual 242, 3) := dk_182 ((dQ_L_law_101 4).trans dk_j4) ((dQ_L_law_101 5).trans dk_j5) ((dQ_L_law_101 6).trans dk_j6) dk_vu2_0_242
theorem dL_law_1623 : decode cL_law 1623 = .ok (.pop2, 1) := dk_88 ((dQ_L_law_101 7).trans dk_j7)
theorem dL_law_1624 : decode cL_law 1624 = .ok (.aload_n 2, 1) := dk_44 ((dQ_L_law_101 8).trans dk_j8)
theorem dL_law_1625 : decode cL_law 1625 = .ok (.aload_n 0, 1) := dk_42 ((dQ_L_law_101 9).trans dk_j9)
theorem dL_law_1626 : decode cL_law 1626 = .ok (.iload_n 3, 1) := dk_29 ((dQ_L_law_101 10).trans dk_j10)
theorem dL_law_1627 : decode cL_law 1627 = .ok (.iconst 1, 1) := dk_4 ((dQ_L_law_101 11).trans dk_j11)
theorem dL_law_1628 : decode cL_law 1628 = .ok (.iadd, 1) := dk_96 ((dQ_L_law_101 12).trans dk_j12)
theorem dL_law_1629 : decode cL_law 1629 = .ok (.iaload, 1) := dk_46 ((dQ_L_law_101 13).trans dk_j13)
theorem dL_law_1630 : decode cL_law 1630 = .ok (.aload_n 0, 1) := dk_42 ((dQ_L_law_101 14).trans dk_j14)
theorem dL_law_1631 : decode cL_law 1631 = .ok (.iload_n 3, 1) := dk_29 ((dQ_L_law_101 15).trans dk_j15)
theorem dL_law_1632 : decode cL_law 1632 = .ok (.iconst 2, 1) := dk_5 ((dQ_L_law_102 0).trans dk_j0)
theorem dL_law_1633 : decode cL_law 1633 = .ok (.iadd, 1) := dk_96 ((dQ_L_law_102 1).trans dk_j1)
theorem dL_law_1634 : decode cL_law 1634 = .ok (.iaload, 1) := dk_46 ((dQ_L_law_102 2).trans dk_j2)
theorem dL_law_1635 : decode cL_law 1635 = .ok (.aload_n 0, 1) := dk_42 ((dQ_L_law_102 3).trans dk_j3)
theorem dL_law_1636 : decode cL_law 1636 = .ok (.iload_n 3, 1) := dk_29 ((dQ_L_law_102 4).trans dk_j4)
theorem dL_law_1637 : decode cL_law 1637 = .ok (.iconst 3, 1) := dk_6 ((dQ_L_law_102 5).trans dk_j5)
theorem dL_law_1638 : decode cL_law 1638 = .ok (.iadd, 1) := dk_96 ((dQ_L_law_102 6).trans dk_j6)
theorem dL_law_1639 : decode cL_law 1639 = .ok (.iaload, 1) := dk_46 ((dQ_L_law_102 7).trans dk_j7)
theorem dL_law_1640 : decode cL_law 1640 = .ok (.invokevirtual 246, 3) := dk_182 ((dQ_L_law_102 8).trans dk_j8) ((dQ_L_law_102 9).trans dk_j9) ((dQ_L_law_102 10).trans dk_j10) dk_vu2_0_246
theorem dL_law_1643 : decode cL_law 1643 = .ok (.pop2, 1) := dk_88 ((dQ_L_law_102 11).trans dk_j11)
theorem dk_vs2_2_16 : Reader.signed 16 ((0x02 : UInt8).toNat * 256 + (0x10 : UInt8).toNat) = (528 : Int) := by decide +kernel
theorem dL_law_1644 : decode cL_law 1644 = .ok (.goto 528, 3) := dk_167 ((dQ_L_law_102 12).trans dk_j12) ((dQ_L_law_102 13).trans dk_j13) ((dQ_L_law_102 14).trans dk_j14) dk_vs2_2_16
theorem dL_law_1647 : decode cL_law 1647 = .ok (.aload_n 1, 1) := dk_43 ((dQ_L_law_102 15).trans dk_j15)
theorem dL_law_1648 : decode cL_law 1648 = .ok (.aload_n 0, 1) := dk_42 ((dQ_L_law_103 0).trans dk_j0)
theorem dL_law_1649 : decode cL_law 1649 = .ok (.iload_n 3, 1) := dk_29 ((dQ_L_law_103 1).trans dk_j1)
theorem dL_law_1650 : decode cL_law 1650 = .ok (.iconst 1, 1) := dk_4 ((dQ_L_law_103 2).trans dk_j2)
theorem dL_law_1651 : decode cL_law 1651 = .ok (.iadd, 1) := dk_96 ((dQ_L_law_103 3).trans dk_j3)
theorem dL_law_1652 : decode cL_law 1652 = .ok (.iaload, 1) := dk_46 ((dQ_L_law_103 4).trans dk_j4)
theorem dL_law_1653 : decode cL_law 1653 = .ok (.aload_n 0, 1) := dk_42 ((dQ_L_law_103 5).trans dk_j5)
theorem dL_law_1654 : decode cL_law 1654 = .ok (.iload_n 3, 1) := dk_29 ((dQ_L_law_103 6).trans dk_j6)
theorem dL_law_1655 : decode cL_law 1655 = .ok (.iconst 2, 1) := dk_5 ((dQ_L_law_103 7).trans dk_j7)
theorem dL_law_1656 : decode cL_law 1656 = .ok (.iadd, 1) := dk_96 ((dQ_L_law_103 8).trans dk_j8)
theorem dL_law_1657 : decode cL_law 1657 = .ok (.iaload, 1) := dk_46 ((dQ_L_law_103 9).trans dk_j9)
theorem dL_law_1658 : decode cL_law 1658 = .ok (.aload_n 0, 1) := dk_42 ((dQ_L_law_103 10).trans dk_j10)
theorem dL_law_1659 : decode cL_law 1659 = .ok (.iload_n 3, 1) := dk_29 ((dQ_L_law_103 11).trans dk_j11)
theorem dL_law_1660 : decode cL_law 1660 = .ok (.iconst 3, 1) := dk_6 ((dQ_L_law_103 12).trans dk_j12)
theorem dL_law_1661 : decode cL_law 1661 = .ok (.iadd, 1) := dk_96 ((dQ_L_law_103 13).trans dk_j13)
theorem dL_law_1662 : decode cL_law 1662 = .ok (.iaload, 1) := dk_46 ((dQ_L_law_103 14).trans dk_j14)
theorem dL_law_1663 : decode cL_law 1663 = .ok (.invokevirtual 247, 3) := dk_182 ((dQ_L_law_103 15).trans dk_j15) ((dQ_L_law_104 0).trans dk_j0) ((dQ_L_law_104 1).trans dk_j1) dk_vu2_0_247
theorem dL_law_1666 : decode cL_law 1666 = .ok (.pop2, 1) := dk_88 ((dQ_L_law_104 2).trans dk_j2)
theorem dL_law_1667 : decode cL_law 1667 = .ok (.aload_n 2, 1) := dk_44 ((dQ_L_law_104 3).trans dk_j3)
theorem dL_law_1668 : decode cL_law 1668 = .ok (.aload_n 0, 1) := dk_42 ((dQ_L_law_104 4).trans dk_j4)
theorem dL_law_1669 : decode cL_law 1669 = .ok (.iload_n 3, 1) := dk_29 ((dQ_L_law_104 5).trans dk_j5)
theorem dL_law_1670 : decode cL_law 1670 = .ok (.iconst 1, 1) := dk_4 ((dQ_L_law_104 6).trans dk_j6)
theorem dL_law_1671 : decode cL_law 1671 = .ok (.iadd, 1) := dk_96 ((dQ_L_law_104 7).trans dk_j7)
theorem dL_law_1672 : decode cL_law 1672 = .ok (.iaload, 1) := dk_46 ((dQ_L_law_104 8).trans dk_j8)
theorem dL_law_1673 : decode cL_law 1673 = .ok (.aload_n 0, 1) := dk_42 ((dQ_L_law_104 9).trans dk_j9)
theorem dL_law_1674 : decode cL_law 1674 = .ok (.iload_n 3, 1) := dk_29 ((dQ_L_law_104 10).trans dk_j10)
theorem dL_law_1675 : decode cL_law 1675 = .ok (.iconst 2, 1) := dk_5 ((dQ_L_law_104 11).trans dk_j11)
theorem dL_law_1676 : decode cL_law 1676 = .ok (.iadd, 1) := dk_96 ((dQ_L_law_104 12).trans dk_j12)
theorem dL_law_1677 : decode cL_law 1677 = .ok (.iaload, 1) := dk_46 ((dQ_L_law_104 13).trans dk_j13)
theorem dL_law_1678 : decode cL_law 1678 = .ok (.aload_n 0, 1) := dk_42 ((dQ_L_law_104 14).trans dk_j14)
theorem dL_law_1679 : decode cL_law 1679 = .ok (.iload_n 3, 1) := dk_29 ((dQ_L_law_104 15).trans dk_j15)
theorem dL_law_1680 : decode cL_law 1680 = .ok (.iconst 3, 1) := dk_6 ((dQ_L_law_105 0).trans dk_j0)
theorem dL_law_1681 : decode cL_law 1681 = .ok (.iadd, 1) := dk_96 ((dQ_L_law_105 1).trans dk_j1)
theorem dL_law_1682 : decode cL_law 1682 = .ok (.iaload, 1) := dk_46 ((dQ_L_law_105 2).trans dk_j2)
theorem dL_law_1683 : decode cL_law 1683 = .ok (.invokevirtual 250, 3) := dk_182 ((dQ_L_law_105 3).trans dk_j3) ((dQ_L_law_105 4).trans dk_j4) ((dQ_L_law_105 5).trans dk_j5) dk_vu2_0_250
theorem dL_law_1686 : decode cL_law 1686 = .ok (.pop2, 1) := dk_88 ((dQ_L_law_105 6).trans dk_j6)
theorem dk_vs2_1_229 : Reader.signed 16 ((0x01 : UInt8).toNat * 256 + (0xe5 : UInt8).toNat) = (485 : Int) := by decide +kernel
theorem dL_law_1687 : decode cL_law 1687 = .ok (.goto 485, 3) := dk_167 ((dQ_L_law_105 7).trans dk_j7) ((dQ_L_law_105 8).trans dk_j8) ((dQ_L_law_105 9).trans dk_j9) dk_vs2_1_229
theorem dL_law_1690 : decode cL_law 1690 = .ok (.aload_n 1, 1) := dk_43 ((dQ_L_law_105 10).trans dk_j10)
theorem dL_law_1691 : decode cL_law 1691 = .ok (.aload_n 0, 1) := dk_42 ((dQ_L_law_105 11).trans dk_j11)
theorem dL_law_1692 : decode cL_law 1692 = .ok (.iload_n 3, 1) := dk_29 ((dQ_L_law_105 12).trans dk_j12)
theorem dL_law_1693 : decode cL_law 1693 = .ok (.iconst 1, 1) := dk_4 ((dQ_L_law_105 13).trans dk_j13)
theorem dL_law_1694 : decode cL_law 1694 = .ok (.iadd, 1) := dk_96 ((dQ_L_law_105 14).trans dk_j14)
theorem dL_law_1695 : decode cL_law 1695 = .ok (.iaload, 1) := dk_46 ((dQ_L_law_105 15).trans dk_j15)
theorem dL_law_1696 : decode cL_law 1696 = .ok (.aload_n 0, 1) := dk_42 ((dQ_L_law_106 0).trans dk_j0)
theorem dL_law_1697 : decode cL_law 1697 = .ok (.iload_n 3, 1) := dk_29 ((dQ_L_law_106 1).trans dk_j1)
theorem dL_law_1698 : decode cL_law 1698 = .ok (.iconst 2, 1) := dk_5 ((dQ_L_law_106 2).trans dk_j2)
theorem dL_law_1699 : decode cL_law 1699 = .ok (.iadd, 1) := dk_96 ((dQ_L_law_106 3).trans dk_j3)
theorem dL_law_1700 : decode cL_law 1700 = .ok (.iaload, 1) := dk_46 ((dQ_L_law_106 4).trans dk_j4)
theorem dL_law_1701 : decode cL_law 1701 = .ok (.invokevirtual 251, 3) := dk_182 ((dQ_L_law_106 5).trans dk_j5) ((dQ_L_law_106 6).trans dk_j6) ((dQ_L_law_106 7).trans dk_j7) dk_vu2_0_251
theorem dL_law_1704 : decode cL_law 1704 = .ok (.pop2, 1) := dk_88 ((dQ_L_law_106 8).trans dk_j8)
theorem dL_law_1705 : decode cL_law 1705 = .ok (.aload_n 2, 1) := dk_44 ((dQ_L_law_106 9).trans dk_j9)
theorem dL_law_1706 : decode cL_law 1706 = .ok (.aload_n 0, 1) := dk_42 ((dQ_L_law_106 10).trans dk_j10)
theorem dL_law_1707 : decode cL_law 1707 = .ok (.iload_n 3, 1) := dk_29 ((dQ_L_law_106 11).trans dk_j11)
theorem dL_law_1708 : decode cL_law 1708 = .ok (.iconst 1, 1) := dk_4 ((dQ_L_law_106 12).trans dk_j12)
theorem dL_law_1709 : decode cL_law 1709 = .ok (.iadd, 1) := dk_96 ((dQ_L_law_106 13).trans dk_j13)
theorem dL_law_1710 : decode cL_law 1710 = .ok (.iaload, 1) := dk_46 ((dQ_L_law_106 14).trans dk_j14)
theorem dL_law_1711 : decode cL_law 1711 = .ok (.aload_n 0, 1) := dk_42 ((dQ_L_law_106 15).trans dk_j15)
theorem dL_law_1712 : decode cL_law 1712 = .ok (.iload_n 3, 1) := dk_29 ((dQ_L_law_107 0).trans dk_j0)
theorem dL_law_1713 : decode cL_law 1713 = .ok (.iconst 2, 1) := dk_5 ((dQ_L_law_107 1).trans dk_j1)
theorem dL_law_1714 : decode cL_law 1714 = .ok (.iadd, 1) := dk_96 ((dQ_L_law_107 2).trans dk_j2)
theorem dL_law_1715 : decode cL_law 1715 = .ok (.iaload, 1) := dk_46 ((dQ_L_law_107 3).trans dk_j3)
theorem dL_law_1716 : decode cL_law 1716 = .ok (.invokevirtual 255, 3) := dk_182 ((dQ_L_law_107 4).trans dk_j4) ((dQ_L_law_107 5).trans dk_j5) ((dQ_L_law_107 6).trans dk_j6) dk_vu2_0_255
theorem dL_law_1719 : decode cL_law 1719 = .ok (.pop2, 1) := dk_88 ((dQ_L_law_107 7).trans dk_j7)
theorem dk_vs2_1_196 : Reader.signed 16 ((0x01 : UInt8).toNat * 256 + (0xc4 : UInt8).toNat) = (452 : Int) := by decide +kernel
theorem dL_law_1720 : decode cL_law 1720 = .ok (.goto 452, 3) := dk_167 ((dQ_L_law_107 8).trans dk_j8) ((dQ_L_law_107 9).trans dk_j9) ((dQ_L_law_107 10).trans dk_j10) dk_vs2_1_196
theorem dL_law_1723 : decode cL_law 1723 = .ok (.aload_n 1, 1) := dk_43 ((dQ_L_law_107 11).trans dk_j11)
theorem dL_law_1724 : decode cL_law 1724 = .ok (.aload_n 0, 1) := dk_42 ((dQ_L_law_107 12).trans dk_j12)
theorem dL_law_1725 : decode cL_law 1725 = .ok (.iload_n 3, 1) := dk_29 ((dQ_L_law_107 13).trans dk_j13)
theorem dL_law_1726 : decode cL_law 1726 = .ok (.iconst 1, 1) := dk_4 ((dQ_L_law_107 14).trans dk_j14)
theorem dL_law_1727 : decode cL_law 1727 = .ok (.iadd, 1) := dk_96 ((dQ_L_law_107 15).trans dk_j15)
theorem dL_law_1728 : decode cL_law 1728 = .ok (.iaload, 1) := dk_46 ((dQ_L_law_108 0).trans dk_j0)
theorem dL_law_1729 : decode cL_law 1729 = .ok (.aload_n 0, 1) := dk_42 ((dQ_L_law_108 1).trans dk_j1)
theorem dL_law_1730 : decode cL_law 1730 = .ok (.iload_n 3, 1) := dk_29 ((dQ_L_law_108 2).trans dk_j2)
theorem dL_law_1731 : decode cL_law 1731 = .ok (.iconst 2, 1) := dk_5 ((dQ_L_law_108 3).trans dk_j3)
theorem dL_law_1732 : decode cL_law 1732 = .ok (.iadd, 1) := dk_96 ((dQ_L_law_108 4).trans dk_j4)
theorem dL_law_1733 : decode cL_law 1733 = .ok (.iaload, 1) := dk_46 ((dQ_L_law_108 5).trans dk_j5)
theorem dk_vu2_1_0 : (0x01 : UInt8).toNat * 256 + (0x00 : UInt8).toNat = (256 : Nat) := by decide +kernel
theorem dL_law_1734 : decode cL_law 1734 = .ok (.invokevirtual 256, 3) := dk_182 ((dQ_L_law_108 6).trans dk_j6) ((dQ_L_law_108 7).trans dk_j7) ((dQ_L_law_108 8).trans dk_j8) dk_vu2_1_0
theorem dL_law_1737 : decode cL_law 1737 = .ok (.pop, 1) := dk_87 ((dQ_L_law_108 9).trans dk_j9)
theorem dL_law_1738 : decode cL_law 1738 = .ok (.aload_n 2, 1) := dk_44 ((dQ_L_law_108 10).trans dk_j10)
theorem dL_law_1739 : decode cL_law 1739 = .ok (.aload_n 0, 1) := dk_42 ((dQ_L_law_108 11).trans dk_j11)
theorem dL_law_1740 : decode cL_law 1740 = .ok (.iload_n 3, 1) := dk_29 ((dQ_L_law_108 12).trans dk_j12)
theorem dL_law_1741 : decode cL_law 1741 = .ok (.iconst 1, 1) := dk_4 ((dQ_L_law_108 13).trans dk_j13)
theorem dL_law_1742 : decode cL_law 1742 = .ok (.iadd, 1) := dk_96 ((dQ_L_law_108 14).trans dk_j14)
theorem dL_law_1743 : decode cL_law 1743 = .ok (.iaload, 1) := dk_46 ((dQ_L_law_108 15).trans dk_j15)
theorem dL_law_1744 : decode cL_law 1744 = .ok (.aload_n 0, 1) := dk_42 ((dQ_L_law_109 0).trans dk_j0)
theorem dL_law_1745 : decode cL_law 1745 = .ok (.iload_n 3, 1) := dk_29 ((dQ_L_law_109 1).trans dk_j1)
theorem dL_law_1746 : decode cL_law 1746 = .ok (.iconst 2, 1) := dk_5 ((dQ_L_law_109 2).trans dk_j2)
theorem dL_law_1747 : decode cL_law 1747 = .ok (.iadd, 1) := dk_96 ((dQ_L_law_109 3).trans dk_j3)
theorem dL_law_1748 : decode cL_law 1748 = .ok (.iaload, 1) := dk_46 ((dQ_L_law_109 4).trans dk_j4)
theorem dk_vu2_1_3 : (0x01 : UInt8).toNat * 256 + (0x03 : UInt8).toNat = (259 : Nat) := by decide +kernel
theorem dL_law_1749 : decode cL_law 1749 = .ok (.invokevirtual 259, 3) := dk_182 ((dQ_L_law_109 5).trans dk_j5) ((dQ_L_law_109 6).trans dk_j6) ((dQ_L_law_109 7).trans dk_j7) dk_vu2_1_3
theorem dL_law_1752 : decode cL_law 1752 = .ok (.pop, 1) := dk_87 ((dQ_L_law_109 8).trans dk_j8)
theorem dk_vs2_1_163 : Reader.signed 16 ((0x01 : UInt8).toNat * 256 + (0xa3 : UInt8).toNat) = (419 : Int) := by decide +kernel
theorem dL_law_1753 : decode cL_law 1753 = .ok (.goto 419, 3) := dk_167 ((dQ_L_law_109 9).trans dk_j9) ((dQ_L_law_109 10).trans dk_j10) ((dQ_L_law_109 11).trans dk_j11) dk_vs2_1_163
theorem dL_law_1756 : decode cL_law 1756 = .ok (.aload_n 1, 1) := dk_43 ((dQ_L_law_109 12).trans dk_j12)
theorem dL_law_1757 : decode cL_law 1757 = .ok (.aload_n 0, 1) := dk_42 ((dQ_L_law_109 13).trans dk_j13)
theorem dL_law_1758 : decode cL_law 1758 = .ok (.iload_n 3, 1) := dk_29 ((dQ_L_law_109 14).trans dk_j14)
theorem dL_law_1759 : decode cL_law 1759 = .ok (.iconst 1, 1) := dk_4 ((dQ_L_law_109 15).trans dk_j15)
theorem dL_law_1760 : decode cL_law 1760 = .ok (.iadd, 1) := dk_96 ((dQ_L_law_110 0).trans dk_j0)
theorem dL_law_1761 : decode cL_law 1761 = .ok (.iaload, 1) := dk_46 ((dQ_L_law_110 1).trans dk_j1)
theorem dL_law_1762 : decode cL_law 1762 = .ok (.aload_n 0, 1) := dk_42 ((dQ_L_law_110 2).trans dk_j2)
theorem dL_law_1763 : decode cL_law 1763 = .ok (.iload_n 3, 1) := dk_29 ((dQ_L_law_110 3).trans dk_j3)
theorem dL_law_1764 : decode cL_law 1764 = .ok (.iconst 2, 1) := dk_5 ((dQ_L_law_110 4).trans dk_j4)
theorem dL_law_1765 : decode cL_law 1765 = .ok (.iadd, 1) := dk_96 ((dQ_L_law_110 5).trans dk_j5)
theorem dL_law_1766 : decode cL_law 1766 = .ok (.iaload, 1) := dk_46 ((dQ_L_law_110 6).trans dk_j6)
theorem dL_law_1767 : decode cL_law 1767 = .ok (.invokevirtual 260, 3) := dk_182 ((dQ_L_law_110 7).trans dk_j7) ((dQ_L_law_110 8).trans dk_j8) ((dQ_L_law_110 9).trans dk_j9) dk_vu2_1_4
theorem dL_law_1770 : decode cL_law 1770 = .ok (.pop, 1) := dk_87 ((dQ_L_law_110 10).trans dk_j10)
theorem dL_law_1771 : decode cL_law 1771 = .ok (.aload_n 2, 1) := dk_44 ((dQ_L_law_110 11).trans dk_j11)
theorem dL_law_1772 : decode cL_law 1772 = .ok (.aload_n 0, 1) := dk_42 ((dQ_L_law_110 12).trans dk_j12)
theorem dL_law_1773 : decode cL_law 1773 = .ok (.iload_n 3, 1) := dk_29 ((dQ_L_law_110 13).trans dk_j13)
theorem dL_law_1774 : decode cL_law 1774 = .ok (.iconst 1, 1) := dk_4 ((dQ_L_law_110 14).trans dk_j14)
theorem dL_law_1775 : decode cL_law 1775 = .ok (.iadd, 1) := dk_96 ((dQ_L_law_110 15).trans dk_j15)
theorem dL_law_1776 : decode cL_law 1776 = .ok (.iaload, 1) := dk_46 ((dQ_L_law_111 0).trans dk_j0)
theorem dL_law_1777 : decode cL_law 1777 = .ok (.aload_n 0, 1) := dk_42 ((dQ_L_law_111 1).trans dk_j1)
theorem dL_law_1778 : decode cL_law 1778 = .ok (.iload_n 3, 1) := dk_29 ((dQ_L_law_111 2).trans dk_j2)
theorem dL_law_1779 : decode cL_law 1779 = .ok (.iconst 2, 1) := dk_5 ((dQ_L_law_111 3).trans dk_j3)
theorem dL_law_1780 : decode cL_law 1780 = .ok (.iadd, 1) := dk_96 ((dQ_L_law_111 4).trans dk_j4)
theorem dL_law_1781 : decode cL_law 1781 = .ok (.iaload, 1) := dk_46 ((dQ_L_law_111 5).trans dk_j5)
theorem dL_law_1782 : decode cL_law 1782 = .ok (.invokevirtual 263, 3) := dk_182 ((dQ_L_law_111 6).trans dk_j6) ((dQ_L_law_111 7).trans dk_j7) ((dQ_L_law_111 8).trans dk_j8) dk_vu2_1_7
theorem dL_law_1785 : decode cL_law 1785 = .ok (.pop, 1) := dk_87 ((dQ_L_law_111 9).trans dk_j9)
theorem dk_vs2_1_130 : Reader.signed 16 ((0x01 : UInt8).toNat * 256 + (0x82 : UInt8).toNat) = (386 : Int) := by decide +kernel
theorem dL_law_1786 : decode cL_law 1786 = .ok (.goto 386, 3) := dk_167 ((dQ_L_law_111 10).trans dk_j10) ((dQ_L_law_111 11).trans dk_j11) ((dQ_L_law_111 12).trans dk_j12) dk_vs2_1_130
theorem dL_law_1789 : decode cL_law 1789 = .ok (.aload_n 1, 1) := dk_43 ((dQ_L_law_111 13).trans dk_j13)
theorem dL_law_1790 : decode cL_law 1790 = .ok (.invokevirtual 264, 3) := dk_182 ((dQ_L_law_111 14).trans dk_j14) ((dQ_L_law_111 15).trans dk_j15) ((dQ_L_law_112 0).trans dk_j0) dk_vu2_1_8
theorem dL_law_1793 : decode cL_law 1793 = .ok (.pop, 1) := dk_87 ((dQ_L_law_112 1).trans dk_j1)
theorem dL_law_1794 : decode cL_law 1794 = .ok (.aload_n 2, 1) := dk_44 ((dQ_L_law_112 2).trans dk_j2)
theorem dL_law_1795 : decode cL_law 1795 = .ok (.invokevirtual 267, 3) := dk_182 ((dQ_L_law_112 3).trans dk_j3) ((dQ_L_law_112 4).trans dk_j4) ((dQ_L_law_112 5).trans dk_j5) dk_vu2_1_11
theorem dL_law_1798 : decode cL_law 1798 = .ok (.pop, 1) := dk_87 ((dQ_L_law_112 6).trans dk_j6)
theorem dk_vs2_1_117 : Reader.signed 16 ((0x01 : UInt8).toNat * 256 + (0x75 : UInt8).toNat) = (373 : Int) := by decide +kernel
theorem dL_law_1799 : decode cL_law 1799 = .ok (.goto 373, 3) := dk_167 ((dQ_L_law_112 7).trans dk_j7) ((dQ_L_law_112 8).trans dk_j8) ((dQ_L_law_112 9).trans dk_j9) dk_vs2_1_117
theorem dL_law_1802 : decode cL_law 1802 = .ok (.aload_n 1, 1) := dk_43 ((dQ_L_law_112 10).trans dk_j10)
theorem dk_vu2_1_12 : (0x01 : UInt8).toNat * 256 + (0x0c : UInt8).toNat = (268 : Nat) := by decide +kernel
theorem dL_law_1803 : decode cL_law 1803 = .ok (.invokevirtual 268, 3) := dk_182 ((dQ_L_law_112 11).trans dk_j11) ((dQ_L_law_112 12).trans dk_j12) ((dQ_L_law_112 13).trans dk_j13) dk_vu2_1_12
theorem dL_law_1806 : decode cL_law 1806 = .ok (.pop, 1) := dk_87 ((dQ_L_law_112 14).trans dk_j14)
theorem dL_law_1807 : decode cL_law 1807 = .ok (.aload_n 2, 1) := dk_44 ((dQ_L_law_112 15).trans dk_j15)
theorem dL_law_1808 : decode cL_law 1808 = .ok (.invokevirtual 271, 3) := dk_182 ((dQ_L_law_113 0).trans dk_j0) ((dQ_L_law_113 1).trans dk_j1) ((dQ_L_law_113 2).trans dk_j2) dk_vu2_1_15
theorem dL_law_1811 : decode cL_law 1811 = .ok (.pop, 1) := dk_87 ((dQ_L_law_113 3).trans dk_j3)
theorem dk_vs2_1_104 : Reader.signed 16 ((0x01 : UInt8).toNat * 256 + (0x68 : UInt8).toNat) = (360 : Int) := by decide +kernel
theorem dL_law_1812 : decode cL_law 1812 = .ok (.goto 360, 3) := dk_167 ((dQ_L_law_113 4).trans dk_j4) ((dQ_L_law_113 5).trans dk_j5) ((dQ_L_law_113 6).trans dk_j6) dk_vs2_1_104
theorem dL_law_1815 : decode cL_law 1815 = .ok (.aload_n 1, 1) := dk_43 ((dQ_L_law_113 7).trans dk_j7)
theorem dL_law_1816 : decode cL_law 1816 = .ok (.aload_n 0, 1) := dk_42 ((dQ_L_law_113 8).trans dk_j8)
theorem dL_law_1817 : decode cL_law 1817 = .ok (.iload_n 3, 1) := dk_29 ((dQ_L_law_113 9).trans dk_j9)
theorem dL_law_1818 : decode cL_law 1818 = .ok (.iconst 1, 1) := dk_4 ((dQ_L_law_113 10).trans dk_j10)
theorem dL_law_1819 : decode cL_law 1819 = .ok (.iadd, 1) := dk_96 ((dQ_L_law_113 11).trans dk_j11)
theorem dL_law_1820 : decode cL_law 1820 = .ok (.iaload, 1) := dk_46 ((dQ_L_law_113 12).trans dk_j12)
theorem dL_law_1821 : decode cL_law 1821 = .ok (.aload_n 0, 1) := dk_42 ((dQ_L_law_113 13).trans dk_j13)
theorem dL_law_1822 : decode cL_law 1822 = .ok (.iload_n 3, 1) := dk_29 ((dQ_L_law_113 14).trans dk_j14)
theorem dL_law_1823 : decode cL_law 1823 = .ok (.iconst 2, 1) := dk_5 ((dQ_L_law_113 15).trans dk_j15)
theorem dL_law_1824 : decode cL_law 1824 = .ok (.iadd, 1) := dk_96 ((dQ_L_law_114 0).trans dk_j0)
theorem dL_law_1825 : decode cL_law 1825 = .ok (.iaload, 1) := dk_46 ((dQ_L_law_114 1).trans dk_j1)
theorem dL_law_1826 : decode cL_law 1826 = .ok (.invokevirtual 272, 3) := dk_182 ((dQ_L_law_114 2).trans dk_j2) ((dQ_L_law_114 3).trans dk_j3) ((dQ_L_law_114 4).trans dk_j4) dk_vu2_1_16
theorem dL_law_1829 : decode cL_law 1829 = .ok (.pop, 1) := dk_87 ((dQ_L_law_114 5).trans dk_j5)
theorem dL_law_1830 : decode cL_law 1830 = .ok (.aload_n 2, 1) := dk_44 ((dQ_L_law_114 6).trans dk_j6)
theorem dL_law_1831 : decode cL_law 1831 = .ok (.aload_n 0, 1) := dk_42 ((dQ_L_law_114 7).trans dk_j7)
theorem dL_law_1832 : decode cL_law 1832 = .ok (.iload_n 3, 1) := dk_29 ((dQ_L_law_114 8).trans dk_j8)
theorem dL_law_1833 : decode cL_law 1833 = .ok (.iconst 1, 1) := dk_4 ((dQ_L_law_114 9).trans dk_j9)
theorem dL_law_1834 : decode cL_law 1834 = .ok (.iadd, 1) := dk_96 ((dQ_L_law_114 10).trans dk_j10)
theorem dL_law_1835 : decode cL_law 1835 = .ok (.iaload, 1) := dk_46 ((dQ_L_law_114 11).trans dk_j11)
theorem dL_law_1836 : decode cL_law 1836 = .ok (.aload_n 0, 1) := dk_42 ((dQ_L_law_114 12).trans dk_j12)
theorem dL_law_1837 : decode cL_law 1837 = .ok (.iload_n 3, 1) := dk_29 ((dQ_L_law_114 13).trans dk_j13)
theorem dL_law_1838 : decode cL_law 1838 = .ok (.iconst 2, 1) := dk_5 ((dQ_L_law_114 14).trans dk_j14)
theorem dL_law_1839 : decode cL_law 1839 = .ok (.iadd, 1) := dk_96 ((dQ_L_law_114 15).trans dk_j15)
theorem dL_law_1840 : decode cL_law 1840 = .ok (.iaload, 1) := dk_46 ((dQ_L_law_115 0).trans dk_j0)
theorem dL_law_1841 : decode cL_law 1841 = .ok (.invokevirtual 275, 3) := dk_182 ((dQ_L_law_115 1).trans dk_j1) ((dQ_L_law_115 2).trans dk_j2) ((dQ_L_law_115 3).trans dk_j3) dk_vu2_1_19
theorem dL_law_1844 : decode cL_law 1844 = .ok (.pop, 1) := dk_87 ((dQ_L_law_115 4).trans dk_j4)
theorem dk_vs2_1_71 : Reader.signed 16 ((0x01 : UInt8).toNat * 256 + (0x47 : UInt8).toNat) = (327 : Int) := by decide +kernel
theorem dL_law_1845 : decode cL_law 1845 = .ok (.goto 327, 3) := dk_167 ((dQ_L_law_115 5).trans dk_j5) ((dQ_L_law_115 6).trans dk_j6) ((dQ_L_law_115 7).trans dk_j7) dk_vs2_1_71
theorem dL_law_1848 : decode cL_law 1848 = .ok (.aload_n 1, 1) := dk_43 ((dQ_L_law_115 8).trans dk_j8)
theorem dL_law_1849 : decode cL_law 1849 = .ok (.aload_n 0, 1) := dk_42 ((dQ_L_law_115 9).trans dk_j9)
theorem dL_law_1850 : decode cL_law 1850 = .ok (.iload_n 3, 1) := dk_29 ((dQ_L_law_115 10).trans dk_j10)
theorem dL_law_1851 : decode cL_law 1851 = .ok (.iconst 1, 1) := dk_4 ((dQ_L_law_115 11).trans dk_j11)
theorem dL_law_1852 : decode cL_law 1852 = .ok (.iadd, 1) := dk_96 ((dQ_L_law_115 12).trans dk_j12)
theorem dL_law_1853 : decode cL_law 1853 = .ok (.iaload, 1) := dk_46 ((dQ_L_law_115 13).trans dk_j13)
theorem dL_law_1854 : decode cL_law 1854 = .ok (.aload_n 0, 1) := dk_42 ((dQ_L_law_115 14).trans dk_j14)
theorem dL_law_1855 : decode cL_law 1855 = .ok (.iload_n 3, 1) := dk_29 ((dQ_L_law_115 15).trans dk_j15)
theorem dL_law_1856 : decode cL_law 1856 = .ok (.iconst 2, 1) := dk_5 ((dQ_L_law_116 0).trans dk_j0)
theorem dL_law_1857 : decode cL_law 1857 = .ok (.iadd, 1) := dk_96 ((dQ_L_law_116 1).trans dk_j1)
theorem dL_law_1858 : decode cL_law 1858 = .ok (.iaload, 1) := dk_46 ((dQ_L_law_116 2).trans dk_j2)
theorem dL_law_1859 : decode cL_law 1859 = .ok (.aload_n 0, 1) := dk_42 ((dQ_L_law_116 3).trans dk_j3)
theorem dL_law_1860 : decode cL_law 1860 = .ok (.iload_n 3, 1) := dk_29 ((dQ_L_law_116 4).trans dk_j4)
theorem dL_law_1861 : decode cL_law 1861 = .ok (.iconst 3, 1) := dk_6 ((dQ_L_law_116 5).trans dk_j5)
theorem dL_law_1862 : decode cL_law 1862 = .ok (.iadd, 1) := dk_96 ((dQ_L_law_116 6).trans dk_j6)
theorem dL_law_1863 : decode cL_law 1863 = .ok (.iaload, 1) := dk_46 ((dQ_L_law_116 7).trans dk_j7)
theorem dk_vu2_1_20 : (0x01 : UInt8).toNat * 256 + (0x14 : UInt8).toNat = (276 : Nat) := by decide +kernel
theorem dL_law_1864 : decode cL_law 1864 = .ok (.invokevirtual 276, 3) := dk_182 ((dQ_L_law_116 8).trans dk_j8) ((dQ_L_law_116 9).trans dk_j9) ((dQ_L_law_116 10).trans dk_j10) dk_vu2_1_20
theorem dL_law_1867 : decode cL_law 1867 = .ok (.pop, 1) := dk_87 ((dQ_L_law_116 11).trans dk_j11)
theorem dL_law_1868 : decode cL_law 1868 = .ok (.aload_n 2, 1) := dk_44 ((dQ_L_law_116 12).trans dk_j12)
theorem dL_law_1869 : decode cL_law 1869 = .ok (.aload_n 0, 1) := dk_42 ((dQ_L_law_116 13).trans dk_j13)
theorem dL_law_1870 : decode cL_law 1870 = .ok (.iload_n 3, 1) := dk_29 ((dQ_L_law_116 14).trans dk_j14)
theorem dL_law_1871 : decode cL_law 1871 = .ok (.iconst 1, 1) := dk_4 ((dQ_L_law_116 15).trans dk_j15)
theorem dL_law_1872 : decode cL_law 1872 = .ok (.iadd, 1) := dk_96 ((dQ_L_law_117 0).trans dk_j0)
theorem dL_law_1873 : decode cL_law 1873 = .ok (.iaload, 1) := dk_46 ((dQ_L_law_117 1).trans dk_j1)
theorem dL_law_1874 : decode cL_law 1874 = .ok (.aload_n 0, 1) := dk_42 ((dQ_L_law_117 2).trans dk_j2)
theorem dL_law_1875 : decode cL_law 1875 = .ok (.iload_n 3, 1) := dk_29 ((dQ_L_law_117 3).trans dk_j3)
theorem dL_law_1876 : decode cL_law 1876 = .ok (.iconst 2, 1) := dk_5 ((dQ_L_law_117 4).trans dk_j4)
theorem dL_law_1877 : decode cL_law 1877 = .ok (.iadd, 1) := dk_96 ((dQ_L_law_117 5).trans dk_j5)
theorem dL_law_1878 : decode cL_law 1878 = .ok (.iaload, 1) := dk_46 ((dQ_L_law_117 6).trans dk_j6)
theorem dL_law_1879 : decode cL_law 1879 = .ok (.aload_n 0, 1) := dk_42 ((dQ_L_law_117 7).trans dk_j7)
theorem dL_law_1880 : decode cL_law 1880 = .ok (.iload_n 3, 1) := dk_29 ((dQ_L_law_117 8).trans dk_j8)
theorem dL_law_1881 : decode cL_law 1881 = .ok (.iconst 3, 1) := dk_6 ((dQ_L_law_117 9).trans dk_j9)
theorem dL_law_1882 : decode cL_law 1882 = .ok (.iadd, 1) := dk_96 ((dQ_L_law_117 10).trans dk_j10)
theorem dL_law_1883 : decode cL_law 1883 = .ok (.iaload, 1) := dk_46 ((dQ_L_law_117 11).trans dk_j11)
theorem dk_vu2_1_24 : (0x01 : UInt8).toNat * 256 + (0x18 : UInt8).toNat = (280 : Nat) := by decide +kernel
theorem dL_law_1884 : decode cL_law 1884 = .ok (.invokevirtual 280, 3) := dk_182 ((dQ_L_law_117 12).trans dk_j12) ((dQ_L_law_117 13).trans dk_j13) ((dQ_L_law_117 14).trans dk_j14) dk_vu2_1_24
theorem dL_law_1887 : decode cL_law 1887 = .ok (.pop, 1) := dk_87 ((dQ_L_law_117 15).trans dk_j15)
theorem dk_vs2_1_28 : Reader.signed 16 ((0x01 : UInt8).toNat * 256 + (0x1c : UInt8).toNat) = (284 : Int) := by decide +kernel
theorem dL_law_1888 : decode cL_law 1888 = .ok (.goto 284, 3) := dk_167 ((dQ_L_law_118 0).trans dk_j0) ((dQ_L_law_118 1).trans dk_j1) ((dQ_L_law_118 2).trans dk_j2) dk_vs2_1_28
theorem dL_law_1891 : decode cL_law 1891 = .ok (.aload_n 1, 1) := dk_43 ((dQ_L_law_118 3).trans dk_j3)
theorem dL_law_1892 : decode cL_law 1892 = .ok (.aload_n 0, 1) := dk_42 ((dQ_L_law_118 4).trans dk_j4)
theorem dL_law_1893 : decode cL_law 1893 = .ok (.iload_n 3, 1) := dk_29 ((dQ_L_law_118 5).trans dk_j5)
theorem dL_law_1894 : decode cL_law 1894 = .ok (.iconst 1, 1) := dk_4 ((dQ_L_law_118 6).trans dk_j6)
theorem dL_law_1895 : decode cL_law 1895 = .ok (.iadd, 1) := dk_96 ((dQ_L_law_118 7).trans dk_j7)
theorem dL_law_1896 : decode cL_law 1896 = .ok (.iaload, 1) := dk_46 ((dQ_L_law_118 8).trans dk_j8)
theorem dL_law_1897 : decode cL_law 1897 = .ok (.aload_n 0, 1) := dk_42 ((dQ_L_law_118 9).trans dk_j9)
theorem dL_law_1898 : decode cL_law 1898 = .ok (.iload_n 3, 1) := dk_29 ((dQ_L_law_118 10).trans dk_j10)
theorem dL_law_1899 : decode cL_law 1899 = .ok (.iconst 2, 1) := dk_5 ((dQ_L_law_118 11).trans dk_j11)
theorem dL_law_1900 : decode cL_law 1900 = .ok (.iadd, 1) := dk_96 ((dQ_L_law_118 12).trans dk_j12)
theorem dL_law_1901 : decode cL_law 1901 = .ok (.iaload, 1) := dk_46 ((dQ_L_law_118 13).trans dk_j13)
theorem dL_law_1902 : decode cL_law 1902 = .ok (.invokevirtual 281, 3) := dk_182 ((dQ_L_law_118 14).trans dk_j14) ((dQ_L_law_118 15).trans dk_j15) ((dQ_L_law_119 0).trans dk_j0) dk_vu2_1_25
theorem dL_law_1905 : decode cL_law 1905 = .ok (.pop, 1) := dk_87 ((dQ_L_law_119 1).trans dk_j1)
theorem dL_law_1906 : decode cL_law 1906 = .ok (.aload_n 2, 1) := dk_44 ((dQ_L_law_119 2).trans dk_j2)
theorem dL_law_1907 : decode cL_law 1907 = .ok (.aload_n 0, 1) := dk_42 ((dQ_L_law_119 3).trans dk_j3)
theorem dL_law_1908 : decode cL_law 1908 = .ok (.iload_n 3, 1) := dk_29 ((dQ_L_law_119 4).trans dk_j4)
theorem dL_law_1909 : decode cL_law 1909 = .ok (.iconst 1, 1) := dk_4 ((dQ_L_law_119 5).trans dk_j5)
theorem dL_law_1910 : decode cL_law 1910 = .ok (.iadd, 1) := dk_96 ((dQ_L_law_119 6).trans dk_j6)
theorem dL_law_1911 : decode cL_law 1911 = .ok (.iaload, 1) := dk_46 ((dQ_L_law_119 7).trans dk_j7)
theorem dL_law_1912 : decode cL_law 1912 = .ok (.aload_n 0, 1) := dk_42 ((dQ_L_law_119 8).trans dk_j8)
theorem dL_law_1913 : decode cL_law 1913 = .ok (.iload_n 3, 1) := dk_29 ((dQ_L_law_119 9).trans dk_j9)
theorem dL_law_1914 : decode cL_law 1914 = .ok (.iconst 2, 1) := dk_5 ((dQ_L_law_119 10).trans dk_j10)
theorem dL_law_1915 : decode cL_law 1915 = .ok (.iadd, 1) := dk_96 ((dQ_L_law_119 11).trans dk_j11)
theorem dL_law_1916 : decode cL_law 1916 = .ok (.iaload, 1) := dk_46 ((dQ_L_law_119 12).trans dk_j12)
theorem dL_law_1917 : decode cL_law 1917 = .ok (.invokevirtual 284, 3) := dk_182 ((dQ_L_law_119 13).trans dk_j13) ((dQ_L_law_119 14).trans dk_j14) ((dQ_L_law_119 15).trans dk_j15) dk_vu2_1_28
theorem dL_law_1920 : decode cL_law 1920 = .ok (.pop, 1) := dk_87 ((dQ_L_law_120 0).trans dk_j0)
theorem dk_vs2_0_251 : Reader.signed 16 ((0x00 : UInt8).toNat * 256 + (0xfb : UInt8).toNat) = (251 : Int) := by decide +kernel
theorem dL_law_1921 : decode cL_law 1921 = .ok (.goto 251, 3) := dk_167 ((dQ_L_law_120 1).trans dk_j1) ((dQ_L_law_120 2).trans dk_j2) ((dQ_L_law_120 3).trans dk_j3) dk_vs2_0_251
theorem dL_law_1924 : decode cL_law 1924 = .ok (.aload_n 1, 1) := dk_43 ((dQ_L_law_120 4).trans dk_j4)
theorem dL_law_1925 : decode cL_law 1925 = .ok (.aload_n 0, 1) := dk_42 ((dQ_L_law_120 5).trans dk_j5)
theorem dL_law_1926 : decode cL_law 1926 = .ok (.iload_n 3, 1) := dk_29 ((dQ_L_law_120 6).trans dk_j6)
theorem dL_law_1927 : decode cL_law 1927 = .ok (.iconst 1, 1) := dk_4 ((dQ_L_law_120 7).trans dk_j7)
theorem dL_law_1928 : decode cL_law 1928 = .ok (.iadd, 1) := dk_96 ((dQ_L_law_120 8).trans dk_j8)
theorem dL_law_1929 : decode cL_law 1929 = .ok (.iaload, 1) := dk_46 ((dQ_L_law_120 9).trans dk_j9)
theorem dk_vu2_1_29 : (0x01 : UInt8).toNat * 256 + (0x1d : UInt8).toNat = (285 : Nat) := by decide +kernel
theorem dL_law_1930 : decode cL_law 1930 = .ok (.invokevirtual 285, 3) := dk_182 ((dQ_L_law_120 10).trans dk_j10) ((dQ_L_law_120 11).trans dk_j11) ((dQ_L_law_120 12).trans dk_j12) dk_vu2_1_29
theorem dL_law_1933 : decode cL_law 1933 = .ok (.pop, 1) := dk_87 ((dQ_L_law_120 13).trans dk_j13)
theorem dL_law_1934 : decode cL_law 1934 = .ok (.aload_n 2, 1) := dk_44 ((dQ_L_law_120 14).trans dk_j14)
theorem dL_law_1935 : decode cL_law 1935 = .ok (.aload_n 0, 1) := dk_42 ((dQ_L_law_120 15).trans dk_j15)
theorem dL_law_1936 : decode cL_law 1936 = .ok (.iload_n 3, 1) := dk_29 ((dQ_L_law_121 0).trans dk_j0)
theorem dL_law_1937 : decode cL_law 1937 = .ok (.iconst 1, 1) := dk_4 ((dQ_L_law_121 1).trans dk_j1)
theorem dL_law_1938 : decode cL_law 1938 = .ok (.iadd, 1) := dk_96 ((dQ_L_law_121 2).trans dk_j2)
theorem dL_law_1939 : decode cL_law 1939 = .ok (.iaload, 1) := dk_46 ((dQ_L_law_121 3).trans dk_j3)
theorem dk_vu2_1_32 : (0x01 : UInt8).toNat * 256 + (0x20 : UInt8).toNat = (288 : Nat) := by decide +kernel
theorem dL_law_1940 : decode cL_law 1940 = .ok (.invokevirtual 288, 3) := dk_182 ((dQ_L_law_121 4).trans dk_j4) ((dQ_L_law_121 5).trans dk_j5) ((dQ_L_law_121 6).trans dk_j6) dk_vu2_1_32
theorem dL_law_1943 : decode cL_law 1943 = .ok (.pop, 1) := dk_87 ((dQ_L_law_121 7).trans dk_j7)
theorem dk_vs2_0_228 : Reader.signed 16 ((0x00 : UInt8).toNat * 256 + (0xe4 : UInt8).toNat) = (228 : Int) := by decide +kernel
theorem dL_law_1944 : decode cL_law 1944 = .ok (.goto 228, 3) := dk_167 ((dQ_L_law_121 8).trans dk_j8) ((dQ_L_law_121 9).trans dk_j9) ((dQ_L_law_121 10).trans dk_j10) dk_vs2_0_228
theorem dL_law_1947 : decode cL_law 1947 = .ok (.aload_n 1, 1) := dk_43 ((dQ_L_law_121 11).trans dk_j11)
theorem dL_law_1948 : decode cL_law 1948 = .ok (.aload_n 0, 1) := dk_42 ((dQ_L_law_121 12).trans dk_j12)
theorem dL_law_1949 : decode cL_law 1949 = .ok (.iload_n 3, 1) := dk_29 ((dQ_L_law_121 13).trans dk_j13)
theorem dL_law_1950 : decode cL_law 1950 = .ok (.iconst 1, 1) := dk_4 ((dQ_L_law_121 14).trans dk_j14)
theorem dL_law_1951 : decode cL_law 1951 = .ok (.iadd, 1) := dk_96 ((dQ_L_law_121 15).trans dk_j15)
theorem dL_law_1952 : decode cL_law 1952 = .ok (.iaload, 1) := dk_46 ((dQ_L_law_122 0).trans dk_j0)
theorem dk_vu2_1_33 : (0x01 : UInt8).toNat * 256 + (0x21 : UInt8).toNat = (289 : Nat) := by decide +kernel
theorem dL_law_1953 : decode cL_law 1953 = .ok (.invokevirtual 289, 3) := dk_182 ((dQ_L_law_122 1).trans dk_j1) ((dQ_L_law_122 2).trans dk_j2) ((dQ_L_law_122 3).trans dk_j3) dk_vu2_1_33
theorem dL_law_1956 : decode cL_law 1956 = .ok (.pop, 1) := dk_87 ((dQ_L_law_122 4).trans dk_j4)
theorem dL_law_1957 : decode cL_law 1957 = .ok (.aload_n 2, 1) := dk_44 ((dQ_L_law_122 5).trans dk_j5)
theorem dL_law_1958 : decode cL_law 1958 = .ok (.aload_n 0, 1) := dk_42 ((dQ_L_law_122 6).trans dk_j6)
theorem dL_law_1959 : decode cL_law 1959 = .ok (.iload_n 3, 1) := dk_29 ((dQ_L_law_122 7).trans dk_j7)
theorem dL_law_1960 : decode cL_law 1960 = .ok (.iconst 1, 1) := dk_4 ((dQ_L_law_122 8).trans dk_j8)
theorem dL_law_1961 : decode cL_law 1961 = .ok (.iadd, 1) := dk_96 ((dQ_L_law_122 9).trans dk_j9)
theorem dL_law_1962 : decode cL_law 1962 = .ok (.iaload, 1) := dk_46 ((dQ_L_law_122 10).trans dk_j10)
theorem dk_vu2_1_36 : (0x01 : UInt8).toNat * 256 + (0x24 : UInt8).toNat = (292 : Nat) := by decide +kernel
theorem dL_law_1963 : decode cL_law 1963 = .ok (.invokevirtual 292, 3) := dk_182 ((dQ_L_law_122 11).trans dk_j11) ((dQ_L_law_122 12).trans dk_j12) ((dQ_L_law_122 13).trans dk_j13) dk_vu2_1_36
theorem dL_law_1966 : decode cL_law 1966 = .ok (.pop, 1) := dk_87 ((dQ_L_law_122 14).trans dk_j14)
theorem dk_vs2_0_205 : Reader.signed 16 ((0x00 : UInt8).toNat * 256 + (0xcd : UInt8).toNat) = (205 : Int) := by decide +kernel
theorem dL_law_1967 : decode cL_law 1967 = .ok (.goto 205, 3) := dk_167 ((dQ_L_law_122 15).trans dk_j15) ((dQ_L_law_123 0).trans dk_j0) ((dQ_L_law_123 1).trans dk_j1) dk_vs2_0_205
theorem dL_law_1970 : decode cL_law 1970 = .ok (.aload_n 1, 1) := dk_43 ((dQ_L_law_123 2).trans dk_j2)
theorem dL_law_1971 : decode cL_law 1971 = .ok (.aload_n 0, 1) := dk_42 ((dQ_L_law_123 3).trans dk_j3)
theorem dL_law_1972 : decode cL_law 1972 = .ok (.iload_n 3, 1) := dk_29 ((dQ_L_law_123 4).trans dk_j4)
theorem dL_law_1973 : decode cL_law 1973 = .ok (.iconst 1, 1) := dk_4 ((dQ_L_law_123 5).trans dk_j5)
theorem dL_law_1974 : decode cL_law 1974 = .ok (.iadd, 1) := dk_96 ((dQ_L_law_123 6).trans dk_j6)
theorem dL_law_1975 : decode cL_law 1975 = .ok (.iaload, 1) := dk_46 ((dQ_L_law_123 7).trans dk_j7)
theorem dL_law_1976 : decode cL_law 1976 = .ok (.invokevirtual 293, 3) := dk_182 ((dQ_L_law_123 8).trans dk_j8) ((dQ_L_law_123 9).trans dk_j9) ((dQ_L_law_123 10).trans dk_j10) dk_vu2_1_37
theorem dL_law_1979 : decode cL_law 1979 = .ok (.pop, 1) := dk_87 ((dQ_L_law_123 11).trans dk_j11)
theorem dL_law_1980 : decode cL_law 1980 = .ok (.aload_n 2, 1) := dk_44 ((dQ_L_law_123 12).trans dk_j12)
theorem dL_law_1981 : decode cL_law 1981 = .ok (.aload_n 0, 1) := dk_42 ((dQ_L_law_123 13).trans dk_j13)
theorem dL_law_1982 : decode cL_law 1982 = .ok (.iload_n 3, 1) := dk_29 ((dQ_L_law_123 14).trans dk_j14)
theorem dL_law_1983 : decode cL_law 1983 = .ok (.iconst 1, 1) := dk_4 ((dQ_L_law_123 15).trans dk_j15)
theorem dL_law_1984 : decode cL_law 1984 = .ok (.iadd, 1) := dk_96 ((dQ_L_law_124 0).trans dk_j0)
theorem dL_law_1985 : decode cL_law 1985 = .ok (.iaload, 1) := dk_46 ((dQ_L_law_124 1).trans dk_j1)
theorem dL_law_1986 : decode cL_law 1986 = .ok (.invokevirtual 296, 3) := dk_182 ((dQ_L_law_124 2).trans dk_j2) ((dQ_L_law_124 3).trans dk_j3) ((dQ_L_law_124 4).trans dk_j4) dk_vu2_1_40
theorem dL_law_1989 : decode cL_law 1989 = .ok (.pop, 1) := dk_87 ((dQ_L_law_124 5).trans dk_j5)
theorem dk_vs2_0_182 : Reader.signed 16 ((0x00 : UInt8).toNat * 256 + (0xb6 : UInt8).toNat) = (182 : Int) := by decide +kernel
theorem dL_law_1990 : decode cL_law 1990 = .ok (.goto 182, 3) := dk_167 ((dQ_L_law_124 6).trans dk_j6) ((dQ_L_law_124 7).trans dk_j7) ((dQ_L_law_124 8).trans dk_j8) dk_vs2_0_182
theorem dL_law_1993 : decode cL_law 1993 = .ok (.aload_n 1, 1) := dk_43 ((dQ_L_law_124 9).trans dk_j9)
theorem dL_law_1994 : decode cL_law 1994 = .ok (.aload_n 0, 1) := dk_42 ((dQ_L_law_124 10).trans dk_j10)
theorem dL_law_1995 : decode cL_law 1995 = .ok (.iload_n 3, 1) := dk_29 ((dQ_L_law_124 11).trans dk_j11)
theorem dL_law_1996 : decode cL_law 1996 = .ok (.iconst 1, 1) := dk_4 ((dQ_L_law_124 12).trans dk_j12)
theorem dL_law_1997 : decode cL_law 1997 = .ok (.iadd, 1) := dk_96 ((dQ_L_law_124 13).trans dk_j13)
theorem dL_law_1998 : decode cL_law 1998 = .ok (.iaload, 1) := dk_46 ((dQ_L_law_124 14).trans dk_j14)
theorem dL_law_1999 : decode cL_law 1999 = .ok (.aload_n 0, 1) := dk_42 ((dQ_L_law_124 15).trans dk_j15)
theorem dL_law_2000 : decode cL_law 2000 = .ok (.iload_n 3, 1) := dk_29 ((dQ_L_law_125 0).trans dk_j0)
theorem dL_law_2001 : decode cL_law 2001 = .ok (.iconst 2, 1) := dk_5 ((dQ_L_law_125 1).trans dk_j1)
theorem dL_law_2002 : decode cL_law 2002 = .ok (.iadd, 1) := dk_96 ((dQ_L_law_125 2).trans dk_j2)
theorem dL_law_2003 : decode cL_law 2003 = .ok (.iaload, 1) := dk_46 ((dQ_L_law_125 3).trans dk_j3)
theorem dL_law_2004 : decode cL_law 2004 = .ok (.aload_n 0, 1) := dk_42 ((dQ_L_law_125 4).trans dk_j4)
theorem dL_law_2005 : decode cL_law 2005 = .ok (.iload_n 3, 1) := dk_29 ((dQ_L_law_125 5).trans dk_j5)
theorem dL_law_2006 : decode cL_law 2006 = .ok (.iconst 3, 1) := dk_6 ((dQ_L_law_125 6).trans dk_j6)
theorem dL_law_2007 : decode cL_law 2007 = .ok (.iadd, 1) := dk_96 ((dQ_L_law_125 7).trans dk_j7)
theorem dL_law_2008 : decode cL_law 2008 = .ok (.iaload, 1) := dk_46 ((dQ_L_law_125 8).trans dk_j8)
theorem dL_law_2009 : decode cL_law 2009 = .ok (.invokevirtual 297, 3) := dk_182 ((dQ_L_law_125 9).trans dk_j9) ((dQ_L_law_125 10).trans dk_j10) ((dQ_L_law_125 11).trans dk_j11) dk_vu2_1_41
theorem dL_law_2012 : decode cL_law 2012 = .ok (.pop, 1) := dk_87 ((dQ_L_law_125 12).trans dk_j12)
theorem dL_law_2013 : decode cL_law 2013 = .ok (.aload_n 2, 1) := dk_44 ((dQ_L_law_125 13).trans dk_j13)
theorem dL_law_2014 : decode cL_law 2014 = .ok (.aload_n 0, 1) := dk_42 ((dQ_L_law_125 14).trans dk_j14)
theorem dL_law_2015 : decode cL_law 2015 = .ok (.iload_n 3, 1) := dk_29 ((dQ_L_law_125 15).trans dk_j15)
theorem dL_law_2016 : decode cL_law 2016 = .ok (.iconst 1, 1) := dk_4 ((dQ_L_law_126 0).trans dk_j0)
theorem dL_law_2017 : decode cL_law 2017 = .ok (.iadd, 1) := dk_96 ((dQ_L_law_126 1).trans dk_j1)
theorem dL_law_2018 : decode cL_law 2018 = .ok (.iaload, 1) := dk_46 ((dQ_L_law_126 2).trans dk_j2)
theorem dL_law_2019 : decode cL_law 2019 = .ok (.aload_n 0, 1) := dk_42 ((dQ_L_law_126 3).trans dk_j3)
theorem dL_law_2020 : decode cL_law 2020 = .ok (.iload_n 3, 1) := dk_29 ((dQ_L_law_126 4).trans dk_j4)
theorem dL_law_2021 : decode cL_law 2021 = .ok (.iconst 2, 1) := dk_5 ((dQ_L_law_126 5).trans dk_j5)
theorem dL_law_2022 : decode cL_law 2022 = .ok (.iadd, 1) := dk_96 ((dQ_L_law_126 6).trans dk_j6)
theorem dL_law_2023 : decode cL_law 2023 = .ok (.iaload, 1) := dk_46 ((dQ_L_law_126 7).trans dk_j7)
theorem dL_law_2024 : decode cL_law 2024 = .ok (.aload_n 0, 1) := dk_42 ((dQ_L_law_126 8).trans dk_j8)
theorem dL_law_2025 : decode cL_law 2025 = .ok (.iload_n 3, 1) := dk_29 ((dQ_L_law_126 9).trans dk_j9)
theorem dL_law_2026 : decode cL_law 2026 = .ok (.iconst 3, 1) := dk_6 ((dQ_L_law_126 10).trans dk_j10)
theorem dL_law_2027 : decode cL_law 2027 = .ok (.iadd, 1) := dk_96 ((dQ_L_law_126 11).trans dk_j11)
theorem dL_law_2028 : decode cL_law 2028 = .ok (.iaload, 1) := dk_46 ((dQ_L_law_126 12).trans dk_j12)
theorem dL_law_2029 : decode cL_law 2029 = .ok (.invokevirtual 300, 3) := dk_182 ((dQ_L_law_126 13).trans dk_j13) ((dQ_L_law_126 14).trans dk_j14) ((dQ_L_law_126 15).trans dk_j15) dk_vu2_1_44
theorem dL_law_2032 : decode cL_law 2032 = .ok (.pop, 1) := dk_87 ((dQ_L_law_127 0).trans dk_j0)
theorem dk_vs2_0_139 : Reader.signed 16 ((0x00 : UInt8).toNat * 256 + (0x8b : UInt8).toNat) = (139 : Int) := by decide +kernel
theorem dL_law_2033 : decode cL_law 2033 = .ok (.goto 139, 3) := dk_167 ((dQ_L_law_127 1).trans dk_j1) ((dQ_L_law_127 2).trans dk_j2) ((dQ_L_law_127 3).trans dk_j3) dk_vs2_0_139
theorem dL_law_2036 : decode cL_law 2036 = .ok (.aload_n 1, 1) := dk_43 ((dQ_L_law_127 4).trans dk_j4)
theorem dL_law_2037 : decode cL_law 2037 = .ok (.aload_n 0, 1) := dk_42 ((dQ_L_law_127 5).trans dk_j5)
theorem dL_law_2038 : decode cL_law 2038 = .ok (.iload_n 3, 1) := dk_29 ((dQ_L_law_127 6).trans dk_j6)
theorem dL_law_2039 : decode cL_law 2039 = .ok (.iconst 1, 1) := dk_4 ((dQ_L_law_127 7).trans dk_j7)
theorem dL_law_2040 : decode cL_law 2040 = .ok (.iadd, 1) := dk_96 ((dQ_L_law_127 8).trans dk_j8)
theorem dL_law_2041 : decode cL_law 2041 = .ok (.iaload, 1) := dk_46 ((dQ_L_law_127 9).trans dk_j9)
theorem dL_law_2042 : decode cL_law 2042 = .ok (.aload_n 0, 1) := dk_42 ((dQ_L_law_127 10).trans dk_j10)
theorem dL_law_2043 : decode cL_law 2043 = .ok (.iload_n 3, 1) := dk_29 ((dQ_L_law_127 11).trans dk_j11)
theorem dL_law_2044 : decode cL_law 2044 = .ok (.iconst 2, 1) := dk_5 ((dQ_L_law_127 12).trans dk_j12)
theorem dL_law_2045 : decode cL_law 2045 = .ok (.iadd, 1) := dk_96 ((dQ_L_law_127 13).trans dk_j13)
theorem dL_law_2046 : decode cL_law 2046 = .ok (.iaload, 1) := dk_46 ((dQ_L_law_127 14).trans dk_j14)
theorem dL_law_2047 : decode cL_law 2047 = .ok (.aload_n 0, 1) := dk_42 ((dQ_L_law_127 15).trans dk_j15)
theorem dL_law_2048 : decode cL_law 2048 = .ok (.iload_n 3, 1) := dk_29 ((dQ_L_law_128 0).trans dk_j0)
theorem dL_law_2049 : decode cL_law 2049 = .ok (.iconst 3, 1) := dk_6 ((dQ_L_law_128 1).trans dk_j1)
theorem dL_law_2050 : decode cL_law 2050 = .ok (.iadd, 1) := dk_96 ((dQ_L_law_128 2).trans dk_j2)
theorem dL_law_2051 : decode cL_law 2051 = .ok (.iaload, 1) := dk_46 ((dQ_L_law_128 3).trans dk_j3)
theorem dL_law_2052 : decode cL_law 2052 = .ok (.i2l, 1) := dk_133 ((dQ_L_law_128 4).trans dk_j4)
theorem dL_law_2053 : decode cL_law 2053 = .ok (.bipush 32, 2) := dk_16 ((dQ_L_law_128 5).trans dk_j5) ((dQ_L_law_128 6).trans dk_j6) dk_vs1_32
theorem dL_law_2055 : decode cL_law 2055 = .ok (.lshl, 1) := dk_121 ((dQ_L_law_128 7).trans dk_j7)
theorem dL_law_2056 : decode cL_law 2056 = .ok (.aload_n 0, 1) := dk_42 ((dQ_L_law_128 8).trans dk_j8)
theorem dL_law_2057 : decode cL_law 2057 = .ok (.iload_n 3, 1) := dk_29 ((dQ_L_law_128 9).trans dk_j9)
theorem dL_law_2058 : decode cL_law 2058 = .ok (.iconst 4, 1) := dk_7 ((dQ_L_law_128 10).trans dk_j10)
theorem dL_law_2059 : decode cL_law 2059 = .ok (.iadd, 1) := dk_96 ((dQ_L_law_128 11).trans dk_j11)
theorem dL_law_2060 : decode cL_law 2060 = .ok (.iaload, 1) := dk_46 ((dQ_L_law_128 12).trans dk_j12)
theorem dL_law_2061 : decode cL_law 2061 = .ok (.i2l, 1) := dk_133 ((dQ_L_law_128 13).trans dk_j13)
theorem dk_vu2_1_45 : (0x01 : UInt8).toNat * 256 + (0x2d : UInt8).toNat = (301 : Nat) := by decide +kernel
theorem dL_law_2062 : decode cL_law 2062 = .ok (.ldc2_w 301, 3) := dk_20 ((dQ_L_law_128 14).trans dk_j14) ((dQ_L_law_128 15).trans dk_j15) ((dQ_L_law_129 0).trans dk_j0) dk_vu2_1_45
theorem dL_law_2065 : decode cL_law 2065 = .ok (.land, 1) := dk_127 ((dQ_L_law_129 1).trans dk_j1)
theorem dL_law_2066 : decode cL_law 2066 = .ok (.lor, 1) := dk_129 ((dQ_L_law_129 2).trans dk_j2)
theorem dL_law_2067 : decode cL_law 2067 = .ok (.invokevirtual 303, 3) := dk_182 ((dQ_L_law_129 3).trans dk_j3) ((dQ_L_law_129 4).trans dk_j4) ((dQ_L_law_129 5).trans dk_j5) dk_vu2_1_47
theorem dL_law_2070 : decode cL_law 2070 = .ok (.pop, 1) := dk_87 ((dQ_L_law_129 6).trans dk_j6)
theorem dL_law_2071 : decode cL_law 2071 = .ok (.aload_n 2, 1) := dk_44 ((dQ_L_law_129 7).trans dk_j7)
theorem dL_law_2072 : decode cL_law 2072 = .ok (.aload_n 0, 1) := dk_42 ((dQ_L_law_129 8).trans dk_j8)
theorem dL_law_2073 : decode cL_law 2073 = .ok (.iload_n 3, 1) := dk_29 ((dQ_L_law_129 9).trans dk_j9)
theorem dL_law_2074 : decode cL_law 2074 = .ok (.iconst 1, 1) := dk_4 ((dQ_L_law_129 10).trans dk_j10)
theorem dL_law_2075 : decode cL_law 2075 = .ok (.iadd, 1) := dk_96 ((dQ_L_law_129 11).trans dk_j11)
theorem dL_law_2076 : decode cL_law 2076 = .ok (.iaload, 1) := dk_46 ((dQ_L_law_129 12).trans dk_j12)
theorem dL_law_2077 : decode cL_law 2077 = .ok (.aload_n 0, 1) := dk_42 ((dQ_L_law_129 13).trans dk_j13)
theorem dL_law_2078 : decode cL_law 2078 = .ok (.iload_n 3, 1) := dk_29 ((dQ_L_law_129 14).trans dk_j14)
theorem dL_law_2079 : decode cL_law 2079 = .ok (.iconst 2, 1) := dk_5 ((dQ_L_law_129 15).trans dk_j15)
theorem dL_law_2080 : decode cL_law 2080 = .ok (.iadd, 1) := dk_96 ((dQ_L_law_130 0).trans dk_j0)
theorem dL_law_2081 : decode cL_law 2081 = .ok (.iaload, 1) := dk_46 ((dQ_L_law_130 1).trans dk_j1)
theorem dL_law_2082 : decode cL_law 2082 = .ok (.aload_n 0, 1) := dk_42 ((dQ_L_law_130 2).trans dk_j2)
theorem dL_law_2083 : decode cL_law 2083 = .ok (.iload_n 3, 1) := dk_29 ((dQ_L_law_130 3).trans dk_j3)
theorem dL_law_2084 : decode cL_law 2084 = .ok (.iconst 3, 1) := dk_6 ((dQ_L_law_130 4).trans dk_j4)
theorem dL_law_2085 : decode cL_law 2085 = .ok (.iadd, 1) := dk_96 ((dQ_L_law_130 5).trans dk_j5)
theorem dL_law_2086 : decode cL_law 2086 = .ok (.iaload, 1) := dk_46 ((dQ_L_law_130 6).trans dk_j6)
theorem dL_law_2087 : decode cL_law 2087 = .ok (.i2l, 1) := dk_133 ((dQ_L_law_130 7).trans dk_j7)
theorem dL_law_2088 : decode cL_law 2088 = .ok (.bipush 32, 2) := dk_16 ((dQ_L_law_130 8).trans dk_j8) ((dQ_L_law_130 9).trans dk_j9) dk_vs1_32
theorem dL_law_2090 : decode cL_law 2090 = .ok (.lshl, 1) := dk_121 ((dQ_L_law_130 10).trans dk_j10)
theorem dL_law_2091 : decode cL_law 2091 = .ok (.aload_n 0, 1) := dk_42 ((dQ_L_law_130 11).trans dk_j11)
theorem dL_law_2092 : decode cL_law 2092 = .ok (.iload_n 3, 1) := dk_29 ((dQ_L_law_130 12).trans dk_j12)
theorem dL_law_2093 : decode cL_law 2093 = .ok (.iconst 4, 1) := dk_7 ((dQ_L_law_130 13).trans dk_j13)
theorem dL_law_2094 : decode cL_law 2094 = .ok (.iadd, 1) := dk_96 ((dQ_L_law_130 14).trans dk_j14)
theorem dL_law_2095 : decode cL_law 2095 = .ok (.iaload, 1) := dk_46 ((dQ_L_law_130 15).trans dk_j15)
theorem dL_law_2096 : decode cL_law 2096 = .ok (.i2l, 1) := dk_133 ((dQ_L_law_131 0).trans dk_j0)
theorem dL_law_2097 : decode cL_law 2097 = .ok (.ldc2_w 301, 3) := dk_20 ((dQ_L_law_131 1).trans dk_j1) ((dQ_L_law_131 2).trans dk_j2) ((dQ_L_law_131 3).trans dk_j3) dk_vu2_1_45
theorem dL_law_2100 : decode cL_law 2100 = .ok (.land, 1) := dk_127 ((dQ_L_law_131 4).trans dk_j4)
theorem dL_law_2101 : decode cL_law 2101 = .ok (.lor, 1) := dk_129 ((dQ_L_law_131 5).trans dk_j5)
theorem dL_law_2102 : decode cL_law 2102 = .ok (.invokevirtual 307, 3) := dk_182 ((dQ_L_law_131 6).trans dk_j6) ((dQ_L_law_131 7).trans dk_j7) ((dQ_L_law_131 8).trans dk_j8) dk_vu2_1_51
theorem dL_law_2105 : decode cL_law 2105 = .ok (.pop, 1) := dk_87 ((dQ_L_law_131 9).trans dk_j9)
theorem dL_law_2106 : decode cL_law 2106 = .ok (.goto 66, 3) := dk_167 ((dQ_L_law_131 10).trans dk_j10) ((dQ_L_law_131 11).trans dk_j11) ((dQ_L_law_131 12).trans dk_j12) dk_vs2_0_66
theorem dL_law_2109 : decode cL_law 2109 = .ok (.aload_n 1, 1) := dk_43 ((dQ_L_law_131 13).trans dk_j13)
theorem dL_law_2110 : decode cL_law 2110 = .ok (.aload_n 0, 1) := dk_42 ((dQ_L_law_131 14).trans dk_j14)
theorem dL_law_2111 : decode cL_law 2111 = .ok (.iload_n 3, 1) := dk_29 ((dQ_L_law_131 15).trans dk_j15)
theorem dL_law_2112 : decode cL_law 2112 = .ok (.iconst 1, 1) := dk_4 ((dQ_L_law_132 0).trans dk_j0)
theorem dL_law_2113 : decode cL_law 2113 = .ok (.iadd, 1) := dk_96 ((dQ_L_law_132 1).trans dk_j1)
theorem dL_law_2114 : decode cL_law 2114 = .ok (.iaload, 1) := dk_46 ((dQ_L_law_132 2).trans dk_j2)
theorem dL_law_2115 : decode cL_law 2115 = .ok (.aload_n 0, 1) := dk_42 ((dQ_L_law_132 3).trans dk_j3)
theorem dL_law_2116 : decode cL_law 2116 = .ok (.iload_n 3, 1) := dk_29 ((dQ_L_law_132 4).trans dk_j4)
theorem dL_law_2117 : decode cL_law 2117 = .ok (.iconst 2, 1) := dk_5 ((dQ_L_law_132 5).trans dk_j5)
theorem dL_law_2118 : decode cL_law 2118 = .ok (.iadd, 1) := dk_96 ((dQ_L_law_132 6).trans dk_j6)
theorem dL_law_2119 : decode cL_law 2119 = .ok (.iaload, 1) := dk_46 ((dQ_L_law_132 7).trans dk_j7)
theorem dL_law_2120 : decode cL_law 2120 = .ok (.aload_n 0, 1) := dk_42 ((dQ_L_law_132 8).trans dk_j8)
theorem dL_law_2121 : decode cL_law 2121 = .ok (.iload_n 3, 1) := dk_29 ((dQ_L_law_132 9).trans dk_j9)
theorem dL_law_2122 : decode cL_law 2122 = .ok (.iconst 3, 1) := dk_6 ((dQ_L_law_132 10).trans dk_j10)
theorem dL_law_2123 : decode cL_law 2123 = .ok (.iadd, 1) := dk_96 ((dQ_L_law_132 11).trans dk_j11)
theorem dL_law_2124 : decode cL_law 2124 = .ok (.iaload, 1) := dk_46 ((dQ_L_law_132 12).trans dk_j12)
theorem dL_law_2125 : decode cL_law 2125 = .ok (.aload_n 0, 1) := dk_42 ((dQ_L_law_132 13).trans dk_j13)
theorem dL_law_2126 : decode cL_law 2126 = .ok (.iload_n 3, 1) := dk_29 ((dQ_L_law_132 14).trans dk_j14)
theorem dL_law_2127 : decode cL_law 2127 = .ok (.iconst 4, 1) := dk_7 ((dQ_L_law_132 15).trans dk_j15)
theorem dL_law_2128 : decode cL_law 2128 = .ok (.iadd, 1) := dk_96 ((dQ_L_law_133 0).trans dk_j0)
theorem dL_law_2129 : decode cL_law 2129 = .ok (.iaload, 1) := dk_46 ((dQ_L_law_133 1).trans dk_j1)
theorem dL_law_2130 : decode cL_law 2130 = .ok (.aload_n 0, 1) := dk_42 ((dQ_L_law_133 2).trans dk_j2)
theorem dL_law_2131 : decode cL_law 2131 = .ok (.iload_n 3, 1) := dk_29 ((dQ_L_law_133 3).trans dk_j3)
theorem dL_law_2132 : decode cL_law 2132 = .ok (.iconst 5, 1) := dk_8 ((dQ_L_law_133 4).trans dk_j4)
theorem dL_law_2133 : decode cL_law 2133 = .ok (.iadd, 1) := dk_96 ((dQ_L_law_133 5).trans dk_j5)
theorem dL_law_2134 : decode cL_law 2134 = .ok (.iaload, 1) := dk_46 ((dQ_L_law_133 6).trans dk_j6)
theorem dk_vu2_1_52 : (0x01 : UInt8).toNat * 256 + (0x34 : UInt8).toNat = (308 : Nat) := by decide +kernel
theorem dL_law_2135 : decode cL_law 2135 = .ok (.invokevirtual 308, 3) := dk_182 ((dQ_L_law_133 7).trans dk_j7) ((dQ_L_law_133 8).trans dk_j8) ((dQ_L_law_133 9).trans dk_j9) dk_vu2_1_52
theorem dL_law_2138 : decode cL_law 2138 = .ok (.aload_n 2, 1) := dk_44 ((dQ_L_law_133 10).trans dk_j10)
theorem dL_law_2139 : decode cL_law 2139 = .ok (.aload_n 0, 1) := dk_42 ((dQ_L_law_133 11).trans dk_j11)
theorem dL_law_2140 : decode cL_law 2140 = .ok (.iload_n 3, 1) := dk_29 ((dQ_L_law_133 12).trans dk_j12)
theorem dL_law_2141 : decode cL_law 2141 = .ok (.iconst 1, 1) := dk_4 ((dQ_L_law_133 13).trans dk_j13)
theorem dL_law_2142 : decode cL_law 2142 = .ok (.iadd, 1) := dk_96 ((dQ_L_law_133 14).trans dk_j14)
theorem dL_law_2143 : decode cL_law 2143 = .ok (.iaload, 1) := dk_46 ((dQ_L_law_133 15).trans dk_j15)
theorem dL_law_2144 : decode cL_law 2144 = .ok (.aload_n 0, 1) := dk_42 ((dQ_L_law_134 0).trans dk_j0)
theorem dL_law_2145 : decode cL_law 2145 = .ok (.iload_n 3, 1) := dk_29 ((dQ_L_law_134 1).trans dk_j1)
theorem dL_law_2146 : decode cL_law 2146 = .ok (.iconst 2, 1) := dk_5 ((dQ_L_law_134 2).trans dk_j2)
theorem dL_law_2147 : decode cL_law 2147 = .ok (.iadd, 1) := dk_96 ((dQ_L_law_134 3).trans dk_j3)
theorem dL_law_2148 : decode cL_law 2148 = .ok (.iaload, 1) := dk_46 ((dQ_L_law_134 4).trans dk_j4)
theorem dL_law_2149 : decode cL_law 2149 = .ok (.aload_n 0, 1) := dk_42 ((dQ_L_law_134 5).trans dk_j5)
theorem dL_law_2150 : decode cL_law 2150 = .ok (.iload_n 3, 1) := dk_29 ((dQ_L_law_134 6).trans dk_j6)
theorem dL_law_2151 : decode cL_law 2151 = .ok (.iconst 3, 1) := dk_6 ((dQ_L_law_134 7).trans dk_j7)
theorem dL_law_2152 : decode cL_law 2152 = .ok (.iadd, 1) := dk_96 ((dQ_L_law_134 8).trans dk_j8)
theorem dL_law_2153 : decode cL_law 2153 = .ok (.iaload, 1) := dk_46 ((dQ_L_law_134 9).trans dk_j9)
theorem dL_law_2154 : decode cL_law 2154 = .ok (.aload_n 0, 1) := dk_42 ((dQ_L_law_134 10).trans dk_j10)
theorem dL_law_2155 : decode cL_law 2155 = .ok (.iload_n 3, 1) := dk_29 ((dQ_L_law_134 11).trans dk_j11)
theorem dL_law_2156 : decode cL_law 2156 = .ok (.iconst 4, 1) := dk_7 ((dQ_L_law_134 12).trans dk_j12)
theorem dL_law_2157 : decode cL_law 2157 = .ok (.iadd, 1) := dk_96 ((dQ_L_law_134 13).trans dk_j13)
theorem dL_law_2158 : decode cL_law 2158 = .ok (.iaload, 1) := dk_46 ((dQ_L_law_134 14).trans dk_j14)
theorem dL_law_2159 : decode cL_law 2159 = .ok (.aload_n 0, 1) := dk_42 ((dQ_L_law_134 15).trans dk_j15)
theorem dL_law_2160 : decode cL_law 2160 = .ok (.iload_n 3, 1) := dk_29 ((dQ_L_law_135 0).trans dk_j0)
theorem dL_law_2161 : decode cL_law 2161 = .ok (.iconst 5, 1) := dk_8 ((dQ_L_law_135 1).trans dk_j1)
theorem dL_law_2162 : decode cL_law 2162 = .ok (.iadd, 1) := dk_96 ((dQ_L_law_135 2).trans dk_j2)
theorem dL_law_2163 : decode cL_law 2163 = .ok (.iaload, 1) := dk_46 ((dQ_L_law_135 3).trans dk_j3)
theorem dk_vu2_1_55 : (0x01 : UInt8).toNat * 256 + (0x37 : UInt8).toNat = (311 : Nat) := by decide +kernel
theorem dL_law_2164 : decode cL_law 2164 = .ok (.invokevirtual 311, 3) := dk_182 ((dQ_L_law_135 4).trans dk_j4) ((dQ_L_law_135 5).trans dk_j5) ((dQ_L_law_135 6).trans dk_j6) dk_vu2_1_55
theorem dL_law_2167 : decode cL_law 2167 = .ok (.if_icmp .eq 5, 3) := dk_159 ((dQ_L_law_135 7).trans dk_j7) ((dQ_L_law_135 8).trans dk_j8) ((dQ_L_law_135 9).trans dk_j9) dk_vs2_0_5
theorem dL_law_2170 : decode cL_law 2170 = .ok (.iconst 0, 1) := dk_3 ((dQ_L_law_135 10).trans dk_j10)
theorem dL_law_2171 : decode cL_law 2171 = .ok (.ireturn, 1) := dk_172 ((dQ_L_law_135 11).trans dk_j11)
theorem dL_law_2172 : decode cL_law 2172 = .ok (.iinc 3 6, 3) := dk_132 ((dQ_L_law_135 12).trans dk_j12) ((dQ_L_law_135 13).trans dk_j13) ((dQ_L_law_135 14).trans dk_j14) dk_vu1_3 dk_vs1_6
theorem dk_vs2_247_147 : Reader.signed 16 ((0xf7 : UInt8).toNat * 256 + (0x93 : UInt8).toNat) = (-2157 : Int) := by decide +kernel
theorem dL_law_2175 : decode cL_law 2175 = .ok (.goto (-2157), 3) := dk_167 ((dQ_L_law_135 15).trans dk_j15) ((dQ_L_law_136 0).trans dk_j0) ((dQ_L_law_136 1).trans dk_j1) dk_vs2_247_147
theorem dL_law_2178 : decode cL_law 2178 = .ok (.iconst 1, 1) := dk_4 ((dQ_L_law_136 2).trans dk_j2)
theorem dL_law_2179 : decode cL_law 2179 = .ok (.ireturn, 1) := dk_172 ((dQ_L_law_136 3).trans dk_j3)
end
section
/-! the state of a world of cells in fixed places: by place and slot the ints, the longs, the references that change -/
abbrev sn_S : Type := (Nat → Nat → Int32) × (Nat → Nat → Int64) × (Nat → Nat → Option Nat)
def sn_I (σ : sn_S) (q k : Nat) : Int32 := σ.1 q k
def sn_L (σ : sn_S) (q k : Nat) : Int64 := σ.2.1 q k
def sn_R (σ : sn_S) (q k : Nat) : Option Nat := σ.2.2 q k
def sn_pI (σ : sn_S) (q k : Nat) (v : Int32) : sn_S := (fun a b => if a = q ∧ b = k then v else σ.1 a b, σ.2)
def sn_pL (σ : sn_S) (q k : Nat) (v : Int64) : sn_S := (σ.1, fun a b => if a = q ∧ b = k then v else σ.2.1 a b, σ.2.2)
def sn_pR (σ : sn_S) (q k : Nat) (v : Option Nat) : sn_S := (σ.1, σ.2.1, fun a b => if a = q ∧ b = k then v else σ.2.2 a b)
def sn_wI (σ : sn_S) (q : Nat) (f : Nat → Int32) : sn_S := (fun a => if a = q then f else σ.1 a, σ.2)
def sn_wL (σ : sn_S) (q : Nat) (f : Nat → Int64) : sn_S := (σ.1, fun a => if a = q then f else σ.2.1 a, σ.2.2)
/-- what lies in a place: an array (tag of its type, length, 0 ints, 1 longs, 2 references to the places of a list, 3 references that change), or an object (class, by field 0 int, 1 long, 2 a reference that changes, q + 3 the place q) -/
abbrev sn_E : Type := (Nat × Nat × Nat × List Nat) ⊕ (Nat × List Nat)
def sn_fv (ad : Nat → Nat) (σ : sn_S) (q k : Nat) : Nat → Value
  | 0 => .int (sn_I σ q k)
  | 1 => .long (sn_L σ q k)
  | 2 => va_rf ((sn_R σ q k).map ad)
  | r + 3 => .ref (ad r)
def sn_fs (ad : Nat → Nat) (σ : sn_S) (q : Nat) : Nat → List Nat → List Value
  | _, [] => []
  | k, x :: r => sn_fv ad σ q k x :: sn_fs ad σ q (k + 1) r
def sn_av (ad : Nat → Nat) (σ : sn_S) (q n : Nat) (rs : List Nat) : Nat → vp_A
  | 0 => (n, .inl (sn_I σ q))
  | 1 => (n, .inr (.inl (sn_L σ q)))
  | 2 => (n, .inr (.inr (.inr (.inr (fun j => (rs[j]?).map ad)))))
  | _ => (n, .inr (.inr (.inr (.inr (fun j => (sn_R σ q j).map ad)))))
def sn_ev (ct : Nat → ClassId) (ad : Nat → Nat) (σ : sn_S) (q : Nat) : sn_E → va_E
  | .inl (t, n, kd, rs) => .inl (ct t, sn_av ad σ q n rs kd)
  | .inr (ci, fs) => .inr (ci, sn_fs ad σ q 0 fs)
def sn_W (ct : Nat → ClassId) (ad : Nat → Nat) (σ : sn_S) : Nat → List sn_E → va_W
  | _, [] => []
  | k, x :: r => (ad k, sn_ev ct ad σ k x) :: sn_W ct ad σ (k + 1) r
/-- two states that agree in a place -/
def sn_ag (σ τ : sn_S) (q : Nat) : Prop := σ.1 q = τ.1 q ∧ σ.2.1 q = τ.2.1 q ∧ σ.2.2 q = τ.2.2 q
theorem sn_fs_ag {ad : Nat → Nat} {σ τ : sn_S} {q : Nat} (h : sn_ag σ τ q) (fs : List Nat) : ∀ k, sn_fs ad σ q k fs = sn_fs ad τ q k fs := by
  induction fs with
  | nil => intro k; rfl
  | cons x r ih =>
    intro k
    show sn_fv ad σ q k x :: _ = sn_fv ad τ q k x :: _
    rw [ih (k + 1)]
    congr 1
    match x with
    | 0 => show Value.int (σ.1 q k) = Value.int (τ.1 q k); rw [h.1]
    | 1 => show Value.long (σ.2.1 q k) = Value.long (τ.2.1 q k); rw [h.2.1]
    | 2 => show va_rf ((σ.2.2 q k).map ad) = va_rf ((τ.2.2 q k).map ad); rw [h.2.2]
    | x + 3 => rfl
theorem sn_ev_ag {ct : Nat → ClassId} {ad : Nat → Nat} {σ τ : sn_S} {q : Nat} (h : sn_ag σ τ q) (x : sn_E) : sn_ev ct ad σ q x = sn_ev ct ad τ q x := by
  match x with
  | .inl (t, n, kd, rs) =>
    show Sum.inl (ct t, sn_av ad σ q n rs kd) = Sum.inl (ct t, sn_av ad τ q n rs kd)
    congr 2
    match kd with
    | 0 => show (n, Sum.inl (σ.1 q)) = (n, Sum.inl (τ.1 q)); rw [h.1]
    | 1 => show (n, Sum.inr (Sum.inl (σ.2.1 q))) = (n, Sum.inr (Sum.inl (τ.2.1 q))); rw [h.2.1]
    | 2 => rfl
    | kd + 3 => show (n, Sum.inr (Sum.inr (Sum.inr (Sum.inr (fun j => (σ.2.2 q j).map ad))))) = (n, Sum.inr (Sum.inr (Sum.inr (Sum.inr (fun j => (τ.2.2 q j).map ad))))); rw [h.2.2]
  | .inr (ci, fs) =>
    show Sum.inr (ci, sn_fs ad σ q 0 fs) = Sum.inr (ci, sn_fs ad τ q 0 fs)
    rw [sn_fs_ag h]
theorem sn_W_ag {ct : Nat → ClassId} {ad : Nat → Nat} {σ τ : sn_S} (lay : List sn_E) : ∀ k, (∀ a, k ≤ a → sn_ag σ τ a) → sn_W ct ad σ k lay = sn_W ct ad τ k lay := by
  induction lay with
  | nil => intro k _; rfl
  | cons x r ih =>
    intro k h
    show (ad k, sn_ev ct ad σ k x) :: _ = (ad k, sn_ev ct ad τ k x) :: _
    rw [ih (k + 1) (fun a ha => h a (by omega)), sn_ev_ag (h k (Nat.le_refl k))]
theorem sn_W_get {ct : Nat → ClassId} {ad : Nat → Nat} {σ : sn_S} : ∀ {lay : List sn_E} (k : Nat) {q : Nat} {x : sn_E}, lay[q]? = some x → (sn_W ct ad σ k lay)[q]? = some (ad (k + q), sn_ev ct ad σ (k + q) x) := by
  intro lay
  induction lay with
  | nil => intro k q x h; simp at h
  | cons y r ih =>
    intro k q x h
    match q with
    | 0 =>
      simp at h
      subst h
      rfl
    | q + 1 =>
      have h1 : r[q]? = some x := by simpa using h
      have h2 := ih (k + 1) h1
      show (sn_W ct ad σ (k + 1) r)[q]? = _
      rw [h2, show k + 1 + q = k + (q + 1) by omega]
theorem sn_W_set {ct : Nat → ClassId} {ad : Nat → Nat} {σ τ : sn_S} : ∀ {lay : List sn_E} (k : Nat) {q : Nat} {x : sn_E}, lay[q]? = some x → (∀ a, a ≠ k + q → sn_ag σ τ a) → (sn_W ct ad σ k lay).set q (ad (k + q), sn_ev ct ad τ (k + q) x) = sn_W ct ad τ k lay := by
  intro lay
  induction lay with
  | nil => intro k q x h; simp at h
  | cons y r ih =>
    intro k q x h ha
    match q with
    | 0 =>
      simp at h
      subst h
      show (ad k, sn_ev ct ad τ k y) :: sn_W ct ad σ (k + 1) r = (ad k, sn_ev ct ad τ k y) :: sn_W ct ad τ (k + 1) r
      rw [sn_W_ag r (k + 1) (fun a h => ha a (by omega))]
    | q + 1 =>
      have h1 : r[q]? = some x := by simpa using h
      have h2 := ih (k + 1) h1 (fun a h => ha a (by omega))
      show (ad k, sn_ev ct ad σ k y) :: (sn_W ct ad σ (k + 1) r).set q _ = (ad k, sn_ev ct ad τ k y) :: sn_W ct ad τ (k + 1) r
      rw [show k + (q + 1) = k + 1 + q by omega, h2, sn_ev_ag (ha k (by omega))]
theorem sn_fs_get {ad : Nat → Nat} {σ : sn_S} {q : Nat} : ∀ {fs : List Nat} (j : Nat) {k x : Nat}, fs[k]? = some x → (sn_fs ad σ q j fs)[k]? = some (sn_fv ad σ q (j + k) x) := by
  intro fs
  induction fs with
  | nil => intro j k x h; simp at h
  | cons y r ih =>
    intro j k x h
    match k with
    | 0 =>
      simp at h
      subst h
      rfl
    | k + 1 =>
      have h1 : r[k]? = some x := by simpa using h
      have h2 := ih (j + 1) h1
      show (sn_fs ad σ q (j + 1) r)[k]? = _
      rw [h2, show j + 1 + k = j + (k + 1) by omega]
theorem sn_fs_len {ad : Nat → Nat} {σ : sn_S} {q : Nat} : ∀ (fs : List Nat) (j : Nat), (sn_fs ad σ q j fs).length = fs.length := by
  intro fs
  induction fs with
  | nil => intro j; rfl
  | cons y r ih => intro j; show (sn_fs ad σ q (j + 1) r).length + 1 = r.length + 1; rw [ih]
/-- two states that agree in a place but for a slot -/
def sn_ags (σ τ : sn_S) (q k : Nat) : Prop := ∀ b, b ≠ k → σ.1 q b = τ.1 q b ∧ σ.2.1 q b = τ.2.1 q b ∧ σ.2.2 q b = τ.2.2 q b
theorem sn_fs_ag2 {ad : Nat → Nat} {σ τ : sn_S} {q k : Nat} (h : sn_ags σ τ q k) : ∀ (fs : List Nat) (j : Nat), k < j → sn_fs ad σ q j fs = sn_fs ad τ q j fs := by
  intro fs
  induction fs with
  | nil => intro j _; rfl
  | cons x r ih =>
    intro j hj
    show sn_fv ad σ q j x :: _ = sn_fv ad τ q j x :: _
    rw [ih (j + 1) (by omega)]
    congr 1
    obtain ⟨h1, h2, h3⟩ := h j (by omega)
    match x with
    | 0 => show Value.int (σ.1 q j) = Value.int (τ.1 q j); rw [h1]
    | 1 => show Value.long (σ.2.1 q j) = Value.long (τ.2.1 q j); rw [h2]
    | 2 => show va_rf ((σ.2.2 q j).map ad) = va_rf ((τ.2.2 q j).map ad); rw [h3]
    | x + 3 => rfl
theorem sn_fs_set {ad : Nat → Nat} {σ τ : sn_S} {q : Nat} : ∀ {fs : List Nat} (j : Nat) {k x : Nat}, fs[k]? = some x → sn_ags σ τ q (j + k) → (sn_fs ad σ q j fs).set k (sn_fv ad τ q (j + k) x) = sn_fs ad τ q j fs := by
  intro fs
  induction fs with
  | nil => intro j k x h; simp at h
  | cons y r ih =>
    intro j k x h ha
    match k with
    | 0 =>
      simp at h
      subst h
      show sn_fv ad τ q j y :: sn_fs ad σ q (j + 1) r = sn_fv ad τ q j y :: sn_fs ad τ q (j + 1) r
      rw [sn_fs_ag2 ha r (j + 1) (by omega)]
    | k + 1 =>
      have h1 : r[k]? = some x := by simpa using h
      have h2 := ih (j + 1) h1 (by rw [show j + 1 + k = j + (k + 1) by omega]; exact ha)
      show sn_fv ad σ q j y :: (sn_fs ad σ q (j + 1) r).set k _ = sn_fv ad τ q j y :: sn_fs ad τ q (j + 1) r
      rw [show j + (k + 1) = j + 1 + k by omega, h2]
      congr 1
      obtain ⟨h3, h4, h5⟩ := ha j (by omega)
      match y with
      | 0 => show Value.int (σ.1 q j) = Value.int (τ.1 q j); rw [h3]
      | 1 => show Value.long (σ.2.1 q j) = Value.long (τ.2.1 q j); rw [h4]
      | 2 => show va_rf ((σ.2.2 q j).map ad) = va_rf ((τ.2.2 q j).map ad); rw [h5]
      | y + 3 => rfl
/-! the tables' words that every method may use -/
def sn_gw : List Cond := lw_tbl.filter goodWord
theorem sn_gwI {w : Cond} (h : w ∈ tables_1) (g : goodWord w = true) : w ∈ sn_gw := List.mem_filter.mpr ⟨List.mem_append_right _ h, g⟩
theorem sn_gwS {q : MethodName × Nat} (h : q ∈ lw_privs) (g : goodWord (Cond.selects q.1.cls q.1 q.1) = true) : Cond.selects q.1.cls q.1 q.1 ∈ sn_gw :=
  List.mem_filter.mpr ⟨List.mem_append_left _ (List.mem_map.mpr ⟨q, h, rfl⟩), g⟩
theorem sn_good {ws : List Cond} (h : ∀ w ∈ ws, w ∈ sn_gw) : GoodIn sn_gw ws := fun w hw => ⟨h w hw, good_of_word (List.mem_filter.mp (h w hw)).2⟩
abbrev sn_tys (ct : Nat → ClassId) : List (ClassId × FieldType) := [(ct 0, .int), (ct 1, .boolean), (ct 2, .byte), (ct 3, .long), (ct 4, .object "PepperPolicy$House"), (ct 5, .array .long)]
/-! what lies besides the world and stays: the words' texts, two statics of the JDK -/
def sn_len : List Nat := [5, 7, 4, 3, 5, 4, 4, 4, 3, 6, 5, 2, 4, 2, 3, 4]
def sn_byt : List (List Int32) := [[104, 111, 117, 115, 101], [109, 105, 110, 117, 116, 101, 115], [100, 117, 115, 116], [108, 97, 119], [109, 111, 110, 101, 121], [111, 100, 100, 115], [110, 111, 115, 101], [103, 117, 115, 116], [110, 101, 116], [112, 111, 108, 105, 99, 121], [104, 111, 108, 100, 115], [97, 116], [102, 114, 111, 109], [116, 111], [115, 117, 109], [112, 97, 121, 115]]
def sn_strs : List (String × Nat × String × Nat) := [(RX5, 52, "house", 0), (RX5, 58, "minutes", 1), (RX5, 64, "dust", 2), (RX5, 66, "law", 3), (RX5, 68, "money", 4), (RX5, 70, "odds", 5), (RX5, 75, "nose", 6), (RX5, 85, "gust", 7), (RX5, 90, "net", 8), (RX5, 95, "policy", 9), (RX5, 106, "holds", 10), (RX5, 111, "at", 11), (RX5, 119, "from", 12), (RX5, 121, "to", 13), (RX5, 123, "sum", 14), (RX5, 125, "pays", 15), (RX9, 175, "house", 0), (RX9, 177, "minutes", 1), (RX9, 183, "dust", 2), (RX9, 185, "law", 3), (RX9, 187, "money", 4), (RX9, 189, "odds", 5), (RX9, 198, "nose", 6), (RX9, 200, "gust", 7), (RX9, 202, "net", 8), (RX9, 204, "policy", 9), (RX9, 206, "holds", 10), (RX9, 208, "at", 11), (RX9, 191, "from", 12), (RX9, 192, "to", 13), (RX9, 194, "sum", 14), (RX9, 196, "pays", 15)]
def sn_nest : List (String × Nat × MethodName × String) := [(RX8, 9, yX2_init, RX8), (RX8, 29, yX5_init, RX8), (RX8, 43, yX0_init, RX8), (RX8, 53, yX3_init, RX8), (RX8, 60, yX1_init, RX8), (RX8, 67, yX7_init, RX8), (RX8, 74, yX4_init, RX8), (RX4, 17, yX0_init, RX8), (RX4, 24, yX3_init, RX8), (RX0, 87, yX8_firstMinutes, RX8), (RX0, 98, yX8_hasBit, RX8), (RX3, 50, yX8_lowestBit, RX8), (RX3, 71, yX8_firstMinutes, RX8), (RX7, 41, yX8_firstMinutes, RX8), (RX4, 47, yX8_lowestBit, RX8), (RX4, 54, yX8_hasBit, RX8)]
def sn_bg (ad : Nat → Nat) (A : Nat → Prop) (U : State) (H : Heap) : Prop := (∀ k, k < 16 → vk_S 1 [sn_len.getD k 0] [sn_byt.getD k []] (fun _ => ad (1000 + k)) (fun _ => ad (2000 + k)) A U H) ∧ (∀ z ∈ sn_strs, vk_R z.1 z.2.1 z.2.2.1 (ad (1000 + z.2.2.2)) U) ∧ va_Z "java/lang/String" "COMPACT_STRINGS" "Z" (.int 1) A U H ∧ va_Zq "jdk/internal/util/Preconditions" "SIOOBE_FORMATTER" "Ljava/util/function/BiFunction;" A U H ∧ ∀ z ∈ sn_nest, va_Nw (.methodLinkNest z.1 z.2.1 z.2.2.1 z.2.2.2) U
theorem sn_bg_warm {ad : Nat → Nat} {A : Nat → Prop} {s U : State} {H : Heap} (hW : s.WarmedH U.vm) (h : sn_bg ad A s H) : sn_bg ad A U H := ⟨fun k hk => (h.1 k hk).moved hW.alike, fun z hz => (h.2.1 z hz).warm hW, h.2.2.1.moved hW.alike, h.2.2.2.1.moved hW.alike, fun z hz => (h.2.2.2.2 z hz).warmM hW⟩
theorem sn_bg_same {ad : Nat → Nat} {A : Nat → Prop} {s U : State} {H : Heap} (hv : U.vm = s.vm) (h : sn_bg ad A s H) : sn_bg ad A U H := ⟨fun k hk => (h.1 k hk).moved (by rw [hv]; exact Vm.Alike.refl _), fun z hz => (h.2.1 z hz).same hv, h.2.2.1.moved (by rw [hv]; exact Vm.Alike.refl _), h.2.2.2.1.moved (by rw [hv]; exact Vm.Alike.refl _), fun z hz => (h.2.2.2.2 z hz).same rfl hv.symm⟩
theorem sn_bg_kept {ad : Nat → Nat} {A : Nat → Prop} {s : State} {H H1 : Heap} (h : sn_bg ad A s H) (hq : ∀ a : Nat, a < H.size → ¬ A a → H1[a]? = H[a]?) : sn_bg ad A s H1 := ⟨fun k hk => (h.1 k hk).kept hq, h.2.1, h.2.2.1.kept hq, h.2.2.2.1.kept hq, h.2.2.2.2⟩
/-- where a method stands: the machine, its own code, the tables' words, the classes -/
def sn_C (p : Program) (s : State) (m : MethodId) (args : Array Value) (meth : Method) (c : Code) (own : String) (cc : ByteArray) (nL : Nat) (ret : Option FieldType) (D : va_G) (ct : Nat → ClassId) (ad : Nat → Nat) (lay : List sn_E) (A : Nat → Prop) : Prop :=
  p.tables.exec = Jvm.exec ∧ c.code = cc ∧ c.maxLocals = nL ∧ s.vm.findClass own = some m.cls ∧ (∀ w ∈ sn_gw, w.before args s = true) ∧ meth.sig.returnType = ret ∧ meth.locks = false ∧ va_K D vwCl (sn_tys ct) s ∧ (∀ σ, va_D A (sn_W ct ad σ 0 lay)) ∧ sn_bg ad A s s.heap
/-- the heap holds the world, in this state -/
def sn_H (s : State) (D : va_G) (ct : Nat → ClassId) (ad : Nat → Nat) (lay : List sn_E) (A : Nat → Prop) (σ : sn_S) (H : Heap) (locs : List Loc) : Prop :=
  va_P D vwCl (sn_W ct ad σ 0 lay) H ∧ va_S A s.heap H locs
/-- a field by the class's pool -/
def sn_Fd (own : String) (index ci k : Nat) : Prop := ∃ (C : String) (T : u_T) (N : Nat), vwCl[ci]? = some (C, T, N) ∧ (∀ w ∈ u_ws C T N, w ∈ sn_gw) ∧ k < N ∧ Cond.fieldLink own index (T k).1 (T k).2.1 (T k).2.2.1 ∈ sn_gw
def sn_Fp (own : String) (index ci k : Nat) (ty : FieldType) : Prop := ∃ (C : String) (T : u_T) (N : Nat) (ty0 : Nat → FieldType), vwCl[ci]? = some (C, T, N) ∧ (∀ w ∈ u_ws C T N, w ∈ sn_gw) ∧ k < N ∧ Cond.fieldLink own index (T k).1 (T k).2.1 (T k).2.2.1 ∈ sn_gw ∧ (∀ k, k < N → parseFieldDescriptor (T k).2.2.1 = some (ty0 k)) ∧ (∀ a, a < N → ∀ b, b < N → a ≠ b → (T a).2.1 ≠ (T b).2.1) ∧ (T k).2.2.2 = false ∧ parseFieldDescriptor (T k).2.2.1 = some ty
def sn_in (i : Int32) (n : Nat) : Bool := decide (0 ≤ i) && decide (i.toNatClampNeg < n)
theorem sn_in_spec {i : Int32} {n : Nat} (h : sn_in i n = true) : vp_in i n := by
  unfold sn_in at h
  simp only [Bool.and_eq_true, decide_eq_true_eq] at h
  unfold vp_in
  intro q
  rcases q with q | q
  · exact absurd q (Int32.not_lt.mpr h.1)
  · omega
def sn_b01 (v : Int32) : Bool := v == 0 || v == 1
def sn_gd {α : Type} (b : Bool) (k : Option α) : Option α := if b = true then k else none
theorem sn_gdE {α : Type} {b : Bool} {k : Option α} {o : α} (h : sn_gd b k = some o) : b = true ∧ k = some o := by
  unfold sn_gd at h
  split at h
  · exact ⟨by assumption, h⟩
  · cases h
theorem sn_gdT {α : Type} {b : Bool} (k : Option α) (h : b = true) : sn_gd b k = k := if_pos h
theorem sn_bd {α β : Type} {x : Option α} {g : α → Option β} {o : β} (h : x.bind g = some o) : ∃ r, x = some r ∧ g r = some o := by
  cases x with
  | none => cases h
  | some r => exact ⟨r, rfl, h⟩
theorem sn_if {α : Type} {c : Prop} [Decidable c] {a b : Option α} {o : α} (hc : c) (h : (if c then a else b) = some o) : a = some o := by rw [if_pos hc] at h; exact h
theorem sn_el {α : Type} {c : Prop} [Decidable c] {a b : Option α} {o : α} (hc : ¬ c) (h : (if c then a else b) = some o) : b = some o := by rw [if_neg hc] at h; exact h
/-- a loop: its body goes on with a state, or ends with a result -/
def sn_it {S T : Type} (f : S → Option (S ⊕ T)) : Nat → S → Option T
  | 0, _ => none
  | n + 1, s => match f s with
    | none => none
    | some (.inl s') => sn_it f n s'
    | some (.inr t) => some t
theorem sn_loop {S T : Type} {f : S → Option (S ⊕ T)} {G : S → Prop} {E : T → Prop} (body : ∀ s o, f s = some o → (∀ s', o = .inl s' → G s') → (∀ t, o = .inr t → E t) → G s) : ∀ (n : Nat) (s : S) (t : T), sn_it f n s = some t → E t → G s := by
  intro n
  induction n with
  | zero => intro s t h _; cases h
  | succ n ih =>
    intro s t h he
    unfold sn_it at h
    cases hf : f s with
    | none => rw [hf] at h; cases h
    | some o =>
      rw [hf] at h
      match o, hf, h with
      | .inl s', hf, h => exact body s _ hf (fun s'' e => by cases e; exact ih s' t h he) (fun t' e => by cases e)
      | .inr t', hf, h =>
        have e1 : t' = t := Option.some.inj h
        subst e1
        exact body s _ hf (fun s'' e => by cases e) (fun t'' e => by cases e; exact he)
def sn_lt {α β : Type} (v : α) (g : α → Option β) : Option β := g v
theorem sn_ltE {α β : Type} {v : α} {g : α → Option β} {o : Option β} (h : sn_lt v g = o) : ∃ y, y = v ∧ g y = o := ⟨v, rfl, h⟩
theorem sn_nz {y : Int32} (h : (y != 0) = true) : ¬ y = 0 := by simpa using h
theorem sn_nzL {y : Int64} (h : (y != 0) = true) : ¬ y = 0 := by simpa using h
end
section
/-! the rows of the machine over a world of fixed places -/
section RW
variable {p : Program} {l : Launch} {e : Env} {R : Room} {s : State} {m : MethodId} {args : Array Value} {below : List Frame} {meth : Method} {c : Code} {H : Heap} {locs : List Loc} {cells slots : Nat} {Q : State → Prop}
variable {cc : ByteArray} {pc nL : Nat} {ls : Array Slot} {rest : List Value} {own : String} {ret : Option FieldType} {D : va_G} {ct : Nat → ClassId} {ad : Nat → Nat} {lay : List sn_E} {A : Nat → Prop} {σ : sn_S}
theorem sn_getI {index ci k q : Nat} {fs : List Nat} (C : sn_C p s m args meth c own cc nL ret D ct ad lay A) (h : sn_H s D ct ad lay A σ H locs) (F : sn_Fd own index ci k) (hq : lay[q]? = some (.inr (ci, fs))) (hk : fs[k]? = some 0) (hd : decode cc pc = .ok (.getfield index, 3))
    (kk : W p l e R s m args below meth c H locs cells slots Q (F0 m (pc + 3) ls (.int (sn_I σ q k) :: rest))) : W p l e R s m args below meth c H locs cells slots Q (F0 m pc ls (.ref (ad q) :: rest)) := by
  obtain ⟨hx, hb, hml, hown, hts, hr, hlk, hK, hD, hG⟩ := C
  obtain ⟨K, T, N, hc, hin, hkN, hl⟩ := F
  have hg := sn_W_get (ct := ct) (ad := ad) (σ := σ) 0 hq
  rw [Nat.zero_add] at hg
  refine va_get (v := .int (sn_I σ q k)) hx hb hts hin hown hK h.1 q hg hc k hkN (hts _ hl) (fun _ z => z) ?_ hd kk
  have := sn_fs_get (ad := ad) (σ := σ) (q := q) 0 hk
  rw [Nat.zero_add] at this
  exact this
theorem sn_getL {index ci k q : Nat} {fs : List Nat} (C : sn_C p s m args meth c own cc nL ret D ct ad lay A) (h : sn_H s D ct ad lay A σ H locs) (F : sn_Fd own index ci k) (hq : lay[q]? = some (.inr (ci, fs))) (hk : fs[k]? = some 1) (hd : decode cc pc = .ok (.getfield index, 3))
    (kk : W p l e R s m args below meth c H locs cells slots Q (F0 m (pc + 3) ls (.long (sn_L σ q k) :: rest))) : W p l e R s m args below meth c H locs cells slots Q (F0 m pc ls (.ref (ad q) :: rest)) := by
  obtain ⟨hx, hb, hml, hown, hts, hr, hlk, hK, hD, hG⟩ := C
  obtain ⟨K, T, N, hc, hin, hkN, hl⟩ := F
  have hg := sn_W_get (ct := ct) (ad := ad) (σ := σ) 0 hq
  rw [Nat.zero_add] at hg
  refine va_get (v := .long (sn_L σ q k)) hx hb hts hin hown hK h.1 q hg hc k hkN (hts _ hl) (fun _ z => z) ?_ hd kk
  have := sn_fs_get (ad := ad) (σ := σ) (q := q) 0 hk
  rw [Nat.zero_add] at this
  exact this
theorem sn_getC {index ci k q r : Nat} {fs : List Nat} (C : sn_C p s m args meth c own cc nL ret D ct ad lay A) (h : sn_H s D ct ad lay A σ H locs) (F : sn_Fd own index ci k) (hq : lay[q]? = some (.inr (ci, fs))) (hk : fs[k]? = some (r + 3)) (hd : decode cc pc = .ok (.getfield index, 3))
    (kk : W p l e R s m args below meth c H locs cells slots Q (F0 m (pc + 3) ls (.ref (ad r) :: rest))) : W p l e R s m args below meth c H locs cells slots Q (F0 m pc ls (.ref (ad q) :: rest)) := by
  obtain ⟨hx, hb, hml, hown, hts, hr, hlk, hK, hD, hG⟩ := C
  obtain ⟨K, T, N, hc, hin, hkN, hl⟩ := F
  have hg := sn_W_get (ct := ct) (ad := ad) (σ := σ) 0 hq
  rw [Nat.zero_add] at hg
  refine va_get (v := .ref (ad r)) hx hb hts hin hown hK h.1 q hg hc k hkN (hts _ hl) (fun _ z => z) ?_ hd kk
  have := sn_fs_get (ad := ad) (σ := σ) (q := q) 0 hk
  rw [Nat.zero_add] at this
  exact this
/-- a field that holds a reference which changes: where it holds the place r now -/
theorem sn_getR {index ci k q r : Nat} {fs : List Nat} (C : sn_C p s m args meth c own cc nL ret D ct ad lay A) (h : sn_H s D ct ad lay A σ H locs) (F : sn_Fd own index ci k) (hq : lay[q]? = some (.inr (ci, fs))) (hk : fs[k]? = some 2) (hr0 : sn_R σ q k = some r) (hd : decode cc pc = .ok (.getfield index, 3))
    (kk : W p l e R s m args below meth c H locs cells slots Q (F0 m (pc + 3) ls (.ref (ad r) :: rest))) : W p l e R s m args below meth c H locs cells slots Q (F0 m pc ls (.ref (ad q) :: rest)) := by
  obtain ⟨hx, hb, hml, hown, hts, hr, hlk, hK, hD, hG⟩ := C
  obtain ⟨K, T, N, hc, hin, hkN, hl⟩ := F
  have hg := sn_W_get (ct := ct) (ad := ad) (σ := σ) 0 hq
  rw [Nat.zero_add] at hg
  refine va_get (v := .ref (ad r)) hx hb hts hin hown hK h.1 q hg hc k hkN (hts _ hl) (fun _ z => z) ?_ hd kk
  have := sn_fs_get (ad := ad) (σ := σ) (q := q) 0 hk
  rw [Nat.zero_add] at this
  rw [this]
  show some (va_rf ((sn_R σ q k).map ad)) = _
  rw [hr0]
  rfl
theorem sn_put {τ : sn_S} {index ci k q x : Nat} {fs : List Nat} {ty : FieldType} {v : Value} (C : sn_C p s m args meth c own cc nL ret D ct ad lay A) (h : sn_H s D ct ad lay A σ H locs) (F : sn_Fp own index ci k ty) (hq : lay[q]? = some (.inr (ci, fs))) (hk : fs[k]? = some x)
    (hv : sn_fv ad τ q k x = v) (ho : ∀ a, a ≠ q → sn_ag σ τ a) (hs : sn_ags σ τ q k) (hn : narrow ty v = v) (hfit : fits ty v = true) (hd : decode cc pc = .ok (.putfield index, 3))
    (kk : ∀ (H : Heap) (locs : List Loc), sn_H s D ct ad lay A τ H locs → W p l e R s m args below meth c H locs cells slots Q (F0 m (pc + 3) ls rest)) : W p l e R s m args below meth c H locs cells slots Q (F0 m pc ls (v :: .ref (ad q) :: rest)) := by
  obtain ⟨hx, hb, hml, hown, hts, hr, hlk, hK, hD, hG⟩ := C
  obtain ⟨K, T, N, ty0, hc, hin, hkN, hl, hty, hnm, hfin, hpd⟩ := F
  have hg := sn_W_get (ct := ct) (ad := ad) (σ := σ) 0 hq
  rw [Nat.zero_add] at hg
  have hkl : k < (sn_fs ad σ q 0 fs).length := by rw [sn_fs_len]; exact (List.getElem?_eq_some_iff.mp hk).1
  refine va_put (v := v) (ty := ty) hx hb hts hin ty0 hty hnm hown hK h.1 (hD σ) h.2 q hg hc k hkN (hts _ hl) (fun _ z => z) hfin hpd hn hfit hkl hd (fun H1 locs1 hP1 hD1 hS1 => ?_)
  refine kk H1 locs1 ⟨?_, hS1⟩
  have e1 := sn_fs_set (ad := ad) (σ := σ) (τ := τ) (q := q) 0 hk (by rw [Nat.zero_add]; exact hs)
  rw [Nat.zero_add, hv] at e1
  rw [e1] at hP1
  have e2 := sn_W_set (ct := ct) (ad := ad) (σ := σ) (τ := τ) 0 hq (by rw [Nat.zero_add]; exact ho)
  rw [Nat.zero_add] at e2
  rw [← e2]
  exact hP1
theorem sn_putI {index ci k q : Nat} {fs : List Nat} {v : Int32} (C : sn_C p s m args meth c own cc nL ret D ct ad lay A) (h : sn_H s D ct ad lay A σ H locs) (F : sn_Fp own index ci k .int) (hq : lay[q]? = some (.inr (ci, fs))) (hk : fs[k]? = some 0) (hd : decode cc pc = .ok (.putfield index, 3))
    (kk : ∀ (H : Heap) (locs : List Loc), sn_H s D ct ad lay A (sn_pI σ q k v) H locs → W p l e R s m args below meth c H locs cells slots Q (F0 m (pc + 3) ls rest)) : W p l e R s m args below meth c H locs cells slots Q (F0 m pc ls (.int v :: .ref (ad q) :: rest)) := by
  refine sn_put (τ := sn_pI σ q k v) C h F hq hk ?_ ?_ ?_ rfl rfl hd kk
  · show Value.int (if q = q ∧ k = k then v else σ.1 q k) = _
    rw [if_pos ⟨rfl, rfl⟩]
  · intro a ha
    refine ⟨funext fun b => ?_, rfl, rfl⟩
    show σ.1 a b = if a = q ∧ b = k then v else σ.1 a b
    rw [if_neg (fun z => ha z.1)]
  · intro b hb
    refine ⟨?_, rfl, rfl⟩
    show σ.1 q b = if q = q ∧ b = k then v else σ.1 q b
    rw [if_neg (fun z => hb z.2)]
theorem sn_putL {index ci k q : Nat} {fs : List Nat} {v : Int64} (C : sn_C p s m args meth c own cc nL ret D ct ad lay A) (h : sn_H s D ct ad lay A σ H locs) (F : sn_Fp own index ci k .long) (hq : lay[q]? = some (.inr (ci, fs))) (hk : fs[k]? = some 1) (hd : decode cc pc = .ok (.putfield index, 3))
    (kk : ∀ (H : Heap) (locs : List Loc), sn_H s D ct ad lay A (sn_pL σ q k v) H locs → W p l e R s m args below meth c H locs cells slots Q (F0 m (pc + 3) ls rest)) : W p l e R s m args below meth c H locs cells slots Q (F0 m pc ls (.long v :: .ref (ad q) :: rest)) := by
  refine sn_put (τ := sn_pL σ q k v) C h F hq hk ?_ ?_ ?_ rfl rfl hd kk
  · show Value.long (if q = q ∧ k = k then v else σ.2.1 q k) = _
    rw [if_pos ⟨rfl, rfl⟩]
  · intro a ha
    refine ⟨rfl, funext fun b => ?_, rfl⟩
    show σ.2.1 a b = if a = q ∧ b = k then v else σ.2.1 a b
    rw [if_neg (fun z => ha z.1)]
  · intro b hb
    refine ⟨rfl, ?_, rfl⟩
    show σ.2.1 q b = if q = q ∧ b = k then v else σ.2.1 q b
    rw [if_neg (fun z => hb z.2)]
theorem sn_putR {index ci k q r : Nat} {fs : List Nat} {K : String} (C : sn_C p s m args meth c own cc nL ret D ct ad lay A) (h : sn_H s D ct ad lay A σ H locs) (F : sn_Fp own index ci k (.object K)) (hq : lay[q]? = some (.inr (ci, fs))) (hk : fs[k]? = some 2) (hd : decode cc pc = .ok (.putfield index, 3))
    (kk : ∀ (H : Heap) (locs : List Loc), sn_H s D ct ad lay A (sn_pR σ q k (some r)) H locs → W p l e R s m args below meth c H locs cells slots Q (F0 m (pc + 3) ls rest)) : W p l e R s m args below meth c H locs cells slots Q (F0 m pc ls (.ref (ad r) :: .ref (ad q) :: rest)) := by
  refine sn_put (τ := sn_pR σ q k (some r)) C h F hq hk ?_ ?_ ?_ rfl rfl hd kk
  · show va_rf ((if q = q ∧ k = k then some r else σ.2.2 q k).map ad) = _
    rw [if_pos ⟨rfl, rfl⟩]
    rfl
  · intro a ha
    refine ⟨rfl, rfl, funext fun b => ?_⟩
    show σ.2.2 a b = if a = q ∧ b = k then some r else σ.2.2 a b
    rw [if_neg (fun z => ha z.1)]
  · intro b hb
    refine ⟨rfl, rfl, ?_⟩
    show σ.2.2 q b = if q = q ∧ b = k then some r else σ.2.2 q b
    rw [if_neg (fun z => hb z.2)]
/-! arrays -/
theorem sn_tys_at {ct : Nat → ClassId} : (sn_tys ct)[0]? = some (ct 0, .int) ∧ (sn_tys ct)[1]? = some (ct 1, .boolean) ∧ (sn_tys ct)[2]? = some (ct 2, .byte) ∧ (sn_tys ct)[3]? = some (ct 3, .long) := ⟨rfl, rfl, rfl, rfl⟩
theorem sn_iald {q n : Nat} {rs : List Nat} {i : Int32} (C : sn_C p s m args meth c own cc nL ret D ct ad lay A) (h : sn_H s D ct ad lay A σ H locs) (hq : lay[q]? = some (.inl (0, n, 0, rs))) (hin : sn_in i n = true) (hd : decode cc pc = .ok (.iaload, 1))
    (kk : W p l e R s m args below meth c H locs cells slots Q (F0 m (pc + 1) ls (.int (sn_I σ q i.toNatClampNeg) :: rest))) : W p l e R s m args below meth c H locs cells slots Q (F0 m pc ls (.int i :: .ref (ad q) :: rest)) := by
  obtain ⟨hx, hb, hml, hown, hts, hr, hlk, hK, hD, hG⟩ := C
  have hg := sn_W_get (ct := ct) (ad := ad) (σ := σ) 0 hq
  rw [Nat.zero_add] at hg
  exact va_iald (f := sn_I σ q) hx hb hK h.1 q 0 hg rfl (sn_in_spec hin) hd kk
theorem sn_zald {q n : Nat} {rs : List Nat} {i : Int32} (C : sn_C p s m args meth c own cc nL ret D ct ad lay A) (h : sn_H s D ct ad lay A σ H locs) (hq : lay[q]? = some (.inl (1, n, 0, rs))) (hin : sn_in i n = true) (hd : decode cc pc = .ok (.baload, 1))
    (kk : W p l e R s m args below meth c H locs cells slots Q (F0 m (pc + 1) ls (.int (sn_I σ q i.toNatClampNeg) :: rest))) : W p l e R s m args below meth c H locs cells slots Q (F0 m pc ls (.int i :: .ref (ad q) :: rest)) := by
  obtain ⟨hx, hb, hml, hown, hts, hr, hlk, hK, hD, hG⟩ := C
  have hg := sn_W_get (ct := ct) (ad := ad) (σ := σ) 0 hq
  rw [Nat.zero_add] at hg
  exact va_zald (f := sn_I σ q) hx hb hK h.1 q 1 hg rfl (sn_in_spec hin) hd kk
theorem sn_bald {q n : Nat} {rs : List Nat} {i : Int32} (C : sn_C p s m args meth c own cc nL ret D ct ad lay A) (h : sn_H s D ct ad lay A σ H locs) (hq : lay[q]? = some (.inl (2, n, 0, rs))) (hin : sn_in i n = true) (hd : decode cc pc = .ok (.baload, 1))
    (kk : W p l e R s m args below meth c H locs cells slots Q (F0 m (pc + 1) ls (.int (sn_I σ q i.toNatClampNeg) :: rest))) : W p l e R s m args below meth c H locs cells slots Q (F0 m pc ls (.int i :: .ref (ad q) :: rest)) := by
  obtain ⟨hx, hb, hml, hown, hts, hr, hlk, hK, hD, hG⟩ := C
  have hg := sn_W_get (ct := ct) (ad := ad) (σ := σ) 0 hq
  rw [Nat.zero_add] at hg
  exact va_bald (f := sn_I σ q) hx hb hK h.1 q 2 hg rfl (sn_in_spec hin) hd kk
theorem sn_lald {q n : Nat} {rs : List Nat} {i : Int32} (C : sn_C p s m args meth c own cc nL ret D ct ad lay A) (h : sn_H s D ct ad lay A σ H locs) (hq : lay[q]? = some (.inl (3, n, 1, rs))) (hin : sn_in i n = true) (hd : decode cc pc = .ok (.laload, 1))
    (kk : W p l e R s m args below meth c H locs cells slots Q (F0 m (pc + 1) ls (.long (sn_L σ q i.toNatClampNeg) :: rest))) : W p l e R s m args below meth c H locs cells slots Q (F0 m pc ls (.int i :: .ref (ad q) :: rest)) := by
  obtain ⟨hx, hb, hml, hown, hts, hr, hlk, hK, hD, hG⟩ := C
  have hg := sn_W_get (ct := ct) (ad := ad) (σ := σ) 0 hq
  rw [Nat.zero_add] at hg
  exact va_lald (f := sn_L σ q) hx hb hK h.1 q 3 hg rfl (sn_in_spec hin) hd kk
/-- the place that an array of references names at an index -/
def sn_at (rs : List Nat) (i : Int32) : Nat := rs.getD i.toNatClampNeg 0
theorem sn_at_some {rs : List Nat} {i : Int32} (h : sn_in i rs.length = true) : rs[i.toNatClampNeg]? = some (sn_at rs i) := by
  unfold sn_in at h
  simp only [Bool.and_eq_true, decide_eq_true_eq] at h
  unfold sn_at
  rw [List.getD_eq_getElem?_getD, List.getElem?_eq_getElem h.2]
  rfl
theorem sn_aldO {q n : Nat} {rs : List Nat} {i : Int32} (C : sn_C p s m args meth c own cc nL ret D ct ad lay A) (h : sn_H s D ct ad lay A σ H locs) (hq : lay[q]? = some (.inl (4, n, 2, rs))) (hn : rs.length = n) (hin : sn_in i n = true) (hd : decode cc pc = .ok (.aaload, 1))
    (kk : W p l e R s m args below meth c H locs cells slots Q (F0 m (pc + 1) ls (.ref (ad (sn_at rs i)) :: rest))) : W p l e R s m args below meth c H locs cells slots Q (F0 m pc ls (.int i :: .ref (ad q) :: rest)) := by
  obtain ⟨hx, hb, hml, hown, hts, hr, hlk, hK, hD, hG⟩ := C
  have hg := sn_W_get (ct := ct) (ad := ad) (σ := σ) 0 hq
  rw [Nat.zero_add] at hg
  refine va_aldq (f := fun j => (rs[j]?).map ad) hx hb hK h.1 q 4 hg rfl (sn_in_spec hin) hd ?_
  rw [sn_at_some (by rw [hn]; exact hin)]
  exact kk
theorem sn_aldA {q n : Nat} {rs : List Nat} {i : Int32} (C : sn_C p s m args meth c own cc nL ret D ct ad lay A) (h : sn_H s D ct ad lay A σ H locs) (hq : lay[q]? = some (.inl (5, n, 2, rs))) (hn : rs.length = n) (hin : sn_in i n = true) (hd : decode cc pc = .ok (.aaload, 1))
    (kk : W p l e R s m args below meth c H locs cells slots Q (F0 m (pc + 1) ls (.ref (ad (sn_at rs i)) :: rest))) : W p l e R s m args below meth c H locs cells slots Q (F0 m pc ls (.int i :: .ref (ad q) :: rest)) := by
  obtain ⟨hx, hb, hml, hown, hts, hr, hlk, hK, hD, hG⟩ := C
  have hg := sn_W_get (ct := ct) (ad := ad) (σ := σ) 0 hq
  rw [Nat.zero_add] at hg
  have hin2 := sn_in_spec hin
  have hlt : i.toNatClampNeg < n := Nat.not_le.mp fun z => hin2 (Or.inr z)
  have hv : va_rf ((rs[i.toNatClampNeg]?).map ad) = .ref (ad (sn_at rs i)) := by rw [sn_at_some (by rw [hn]; exact hin)]; rfl
  refine W.aald (v := .ref (ad (sn_at rs i))) (ty := .array .long) hx hb (h.1 q _ hg) ((hK.2 5 _ rfl).1 n (fun j => va_rf ((rs[j]?).map ad))) rfl (fun z => by cases z) (by show ¬ (i < 0 ∨ (arrV _ _ _).slots.size ≤ _); rw [arrV_size]; exact hin2) (by rw [← hv]; show (arrV (ct 5) n (fun j => va_rf ((rs[j]?).map ad))).slots[i.toNatClampNeg]? = _; rw [arrV_read _ _ hlt]) rfl rfl hd kk
/-- a store into an array of ints, whatever its type keeps -/
theorem sn_astI {q n t : Nat} {rs : List Nat} {i y : Int32} (hq : lay[q]? = some (.inl (t, n, 0, rs))) (hD : ∀ σ, va_D A (sn_W ct ad σ 0 lay)) {H1 : Heap} {locs1 : List Loc}
    (hP1 : va_P D vwCl ((sn_W ct ad σ 0 lay).set q (ad q, .inl (ct t, n, .inl (upd (sn_I σ q) i.toNatClampNeg y)))) H1) (hS1 : va_S A s.heap H1 locs1) : sn_H s D ct ad lay A (sn_pI σ q i.toNatClampNeg y) H1 locs1 := by
  refine ⟨?_, hS1⟩
  have e2 := sn_W_set (ct := ct) (ad := ad) (σ := σ) (τ := sn_pI σ q i.toNatClampNeg y) 0 hq (fun a ha => by
    rw [Nat.zero_add] at ha
    refine ⟨funext fun b => ?_, rfl, rfl⟩
    show σ.1 a b = if a = q ∧ b = i.toNatClampNeg then y else σ.1 a b
    rw [if_neg (fun z => ha z.1)])
  rw [Nat.zero_add] at e2
  have e3 : sn_I (sn_pI σ q i.toNatClampNeg y) q = upd (sn_I σ q) i.toNatClampNeg y := by
    funext b
    show (if q = q ∧ b = i.toNatClampNeg then y else σ.1 q b) = if b = i.toNatClampNeg then y else σ.1 q b
    by_cases hb : b = i.toNatClampNeg
    · rw [if_pos ⟨rfl, hb⟩, if_pos hb]
    · rw [if_neg (fun z => hb z.2), if_neg hb]
  rw [← e2]
  show va_P D vwCl ((sn_W ct ad σ 0 lay).set q (ad q, .inl (ct t, n, .inl (sn_I (sn_pI σ q i.toNatClampNeg y) q)))) H1
  rw [e3]
  exact hP1
theorem sn_iast {q n : Nat} {rs : List Nat} {i x : Int32} (C : sn_C p s m args meth c own cc nL ret D ct ad lay A) (h : sn_H s D ct ad lay A σ H locs) (hq : lay[q]? = some (.inl (0, n, 0, rs))) (hin : sn_in i n = true) (hd : decode cc pc = .ok (.iastore, 1))
    (kk : ∀ (H : Heap) (locs : List Loc), sn_H s D ct ad lay A (sn_pI σ q i.toNatClampNeg x) H locs → W p l e R s m args below meth c H locs cells slots Q (F0 m (pc + 1) ls rest)) : W p l e R s m args below meth c H locs cells slots Q (F0 m pc ls (.int x :: .int i :: .ref (ad q) :: rest)) := by
  obtain ⟨hx, hb, hml, hown, hts, hr, hlk, hK, hD, hG⟩ := C
  have hg := sn_W_get (ct := ct) (ad := ad) (σ := σ) 0 hq
  rw [Nat.zero_add] at hg
  exact va_iast (f := sn_I σ q) hx hb hK h.1 (hD σ) h.2 q 0 hg rfl (sn_in_spec hin) hd (fun H1 locs1 hP1 _ hS1 => kk H1 locs1 (sn_astI hq hD hP1 hS1))
theorem sn_bast {q n : Nat} {rs : List Nat} {i x : Int32} (C : sn_C p s m args meth c own cc nL ret D ct ad lay A) (h : sn_H s D ct ad lay A σ H locs) (hq : lay[q]? = some (.inl (2, n, 0, rs))) (hin : sn_in i n = true) (hd : decode cc pc = .ok (.bastore, 1))
    (kk : ∀ (H : Heap) (locs : List Loc), sn_H s D ct ad lay A (sn_pI σ q i.toNatClampNeg (vp_nar .byte x)) H locs → W p l e R s m args below meth c H locs cells slots Q (F0 m (pc + 1) ls rest)) : W p l e R s m args below meth c H locs cells slots Q (F0 m pc ls (.int x :: .int i :: .ref (ad q) :: rest)) := by
  obtain ⟨hx, hb, hml, hown, hts, hr, hlk, hK, hD, hG⟩ := C
  have hg := sn_W_get (ct := ct) (ad := ad) (σ := σ) 0 hq
  rw [Nat.zero_add] at hg
  exact va_bast (f := sn_I σ q) hx hb hK h.1 (hD σ) h.2 q 2 hg rfl (sn_in_spec hin) hd (fun H1 locs1 hP1 _ hS1 => kk H1 locs1 (sn_astI hq hD hP1 hS1))
theorem sn_zast {q n : Nat} {rs : List Nat} {i x : Int32} (C : sn_C p s m args meth c own cc nL ret D ct ad lay A) (h : sn_H s D ct ad lay A σ H locs) (hq : lay[q]? = some (.inl (1, n, 0, rs))) (hin : sn_in i n = true) (hd : decode cc pc = .ok (.bastore, 1))
    (kk : ∀ (H : Heap) (locs : List Loc), sn_H s D ct ad lay A (sn_pI σ q i.toNatClampNeg (vp_nar .boolean x)) H locs → W p l e R s m args below meth c H locs cells slots Q (F0 m (pc + 1) ls rest)) : W p l e R s m args below meth c H locs cells slots Q (F0 m pc ls (.int x :: .int i :: .ref (ad q) :: rest)) := by
  obtain ⟨hx, hb, hml, hown, hts, hr, hlk, hK, hD, hG⟩ := C
  have hg := sn_W_get (ct := ct) (ad := ad) (σ := σ) 0 hq
  rw [Nat.zero_add] at hg
  exact va_zast (f := sn_I σ q) hx hb hK h.1 (hD σ) h.2 q 1 hg rfl (sn_in_spec hin) hd (fun H1 locs1 hP1 _ hS1 => kk H1 locs1 (sn_astI hq hD hP1 hS1))
theorem sn_last {q n : Nat} {rs : List Nat} {i : Int32} {x : Int64} (C : sn_C p s m args meth c own cc nL ret D ct ad lay A) (h : sn_H s D ct ad lay A σ H locs) (hq : lay[q]? = some (.inl (3, n, 1, rs))) (hin : sn_in i n = true) (hd : decode cc pc = .ok (.lastore, 1))
    (kk : ∀ (H : Heap) (locs : List Loc), sn_H s D ct ad lay A (sn_pL σ q i.toNatClampNeg x) H locs → W p l e R s m args below meth c H locs cells slots Q (F0 m (pc + 1) ls rest)) : W p l e R s m args below meth c H locs cells slots Q (F0 m pc ls (.long x :: .int i :: .ref (ad q) :: rest)) := by
  obtain ⟨hx, hb, hml, hown, hts, hr, hlk, hK, hD, hG⟩ := C
  have hg := sn_W_get (ct := ct) (ad := ad) (σ := σ) 0 hq
  rw [Nat.zero_add] at hg
  refine va_last (f := sn_L σ q) hx hb hK h.1 (hD σ) h.2 q 3 hg rfl (sn_in_spec hin) hd (fun H1 locs1 hP1 _ hS1 => kk H1 locs1 ⟨?_, hS1⟩)
  have e2 := sn_W_set (ct := ct) (ad := ad) (σ := σ) (τ := sn_pL σ q i.toNatClampNeg x) 0 hq (fun a ha => by
    rw [Nat.zero_add] at ha
    refine ⟨rfl, funext fun b => ?_, rfl⟩
    show σ.2.1 a b = if a = q ∧ b = i.toNatClampNeg then x else σ.2.1 a b
    rw [if_neg (fun z => ha z.1)])
  rw [Nat.zero_add] at e2
  rw [← e2]
  refine Eq.mp (congrArg (fun z => va_P D vwCl ((sn_W ct ad σ 0 lay).set q (ad q, .inl (ct 3, n, .inr (.inl z)))) H1) ?_) hP1
  funext b
  show _ = (if q = q ∧ b = i.toNatClampNeg then x else σ.2.1 q b)
  by_cases hb : b = i.toNatClampNeg
  · subst hb
    rw [if_pos ⟨rfl, rfl⟩]
    simp [vp_updL]
  · rw [if_neg (fun z => hb z.2)]
    simp [vp_updL, hb, sn_L]
theorem sn_alen {q t n kd : Nat} {rs : List Nat} {v : Int32} {ty : FieldType} (C : sn_C p s m args meth c own cc nL ret D ct ad lay A) (h : sn_H s D ct ad lay A σ H locs) (hq : lay[q]? = some (.inl (t, n, kd, rs))) (ht : (sn_tys ct)[t]? = some (ct t, ty)) (hv : Int32.ofNat n = v) (hd : decode cc pc = .ok (.arraylength, 1))
    (kk : W p l e R s m args below meth c H locs cells slots Q (F0 m (pc + 1) ls (.int v :: rest))) : W p l e R s m args below meth c H locs cells slots Q (F0 m pc ls (.ref (ad q) :: rest)) := by
  obtain ⟨hx, hb, hml, hown, hts, hr, hlk, hK, hD, hG⟩ := C
  have hg := sn_W_get (ct := ct) (ad := ad) (σ := σ) 0 hq
  rw [Nat.zero_add] at hg
  refine va_alen (x := sn_av ad σ q n rs kd) hx hb hK h.1 q t hg ht ?_ hd kk
  rw [← hv]
  match kd with
  | 0 => rfl
  | 1 => rfl
  | 2 => rfl
  | kd + 3 => rfl
/-! calls -/
def sn_Pc (D : va_G) (ct : Nat → ClassId) (ad : Nat → Nat) (lay : List sn_E) (A : Nat → Prop) (σ : sn_S) (As : List Value) : Array Value → State → Prop :=
  va_Pc As (fun U => va_P D vwCl (sn_W ct ad σ 0 lay) U.heap ∧ va_K D vwCl (sn_tys ct) U ∧ (∀ τ, va_D A (sn_W ct ad τ 0 lay)) ∧ sn_bg ad A U U.heap)
def sn_Q (D : va_G) (ct : Nat → ClassId) (ad : Nat → Nat) (lay : List sn_E) (A : Nat → Prop) (v : Option Value) (σ : sn_S) : Array Value → State → Outcome → State → Prop :=
  fun _ st oc t => oc = .returned v ∧ va_P D vwCl (sn_W ct ad σ 0 lay) t.heap ∧ va_F A st t
/-- the contract of a method over the world -/
def sn_M (l : Launch) (y : MethodName) (cc : ByteArray) (nL : Nat) (ret : Option FieldType) (rm : Room) (lay : List sn_E) (As : (Nat → Nat) → List Value) (σ : sn_S) (v : Option ((Nat → Nat) → Value)) (τ : sn_S) : Prop :=
  ∀ (D : va_G) (ct : Nat → ClassId) (ad : Nat → Nat) (A : Nat → Prop), Met l y (Cond.code y cc nL ret :: sn_gw) rm (sn_Pc D ct ad lay A σ (As ad)) (sn_Q D ct ad lay A (v.map fun f => f ad) τ) 0 0 A
theorem sn_blind {D : va_G} {ct : Nat → ClassId} {ad : Nat → Nat} {lay : List sn_E} {A : Nat → Prop} {σ : sn_S} {As : List Value} : FrameBlind (sn_Pc D ct ad lay A σ As) := by
  intro a U g mk h
  obtain ⟨h1, h2, h3, h4, h5⟩ := h
  exact ⟨h1, h2, va_K.moved (u := U) (U := U.calling g mk a) (Vm.Alike.refl U.vm) h3, h4, sn_bg_same (s := U) rfl h5⟩
theorem sn_pre (C : sn_C p s m args meth c own cc nL ret D ct ad lay A) (h : sn_H s D ct ad lay A σ H locs) (As : List Value) : PreS s H (sn_Pc D ct ad lay A σ As) As := by
  refine ⟨sn_blind, fun U hU hW => ⟨rfl, by rw [hU]; exact h.1, va_K.moved hW.alike C.2.2.2.2.2.2.2.1, C.2.2.2.2.2.2.2.2.1, sn_bg_warm hW (by rw [hU]; exact sn_bg_kept C.2.2.2.2.2.2.2.2.2 h.2.2.1)⟩⟩
theorem sn_goon {v : Option Value} {τ : sn_S} {mc ms : Nat} {a : Array Value} {st0 : List Value} (C : sn_C p s m args meth c own cc nL ret D ct ad lay A) (h : sn_H s D ct ad lay A σ H locs)
    (hr : va_Run p l e R s m args below meth c H locs cells slots 0 0 (F0 m pc ls st0) rest (sn_Q D ct ad lay A v τ a) A)
    (kk : ∀ (H : Heap) (locs : List Loc), sn_H s D ct ad lay A τ H locs → W p l e R s m args below meth c H locs cells slots Q (F0 m (pc + 3) ls (v.toList ++ rest))) : W p l e R s m args below meth c H locs cells slots Q (F0 m pc ls st0) := by
  intro T hT X
  obtain ⟨v', st₀, t, T', L, h0, X', hL, e1, e2, ⟨hv, hP, hz, hk⟩, st⟩ := hr T hT X
  cases hv
  rw [h0] at hz hk
  obtain ⟨t2, a1, b1⟩ := kk T'.heap (locs ++ L) ⟨by rw [e1]; exact hP, Nat.le_trans h.2.1 (by rw [e1]; exact hz), fun q h1 h2 => by rw [e1, hk q (Nat.lt_of_lt_of_le h1 h.2.1) h2]; exact h.2.2.1 q h1 h2, fun q hq => by
      rcases List.mem_append.mp hq with z | z
      · exact h.2.2.2 q z
      · exact hL q z⟩ T' rfl X'
  exact ⟨t2, st t2 a1, b1⟩
/-- the room of a callee within the caller's -/
def sn_fit (rm R : Room) (maxL : Nat) : Bool := decide (rm.frames + 1 ≤ R.frames) && decide (8 + (maxL + 11) + rm.locals ≤ R.locals) && decide (rm.cells = 0) && decide (rm.slots = 0)
theorem sn_fit_spec {rm R : Room} {maxL : Nat} (h : sn_fit rm R maxL = true) : (rm.frames + 1 ≤ R.frames ∧ 8 + (maxL + 11) + rm.locals ≤ R.locals) ∧ rm.cells = 0 ∧ rm.slots = 0 := by
  unfold sn_fit at h
  simp only [Bool.and_eq_true, decide_eq_true_eq] at h
  exact ⟨⟨h.1.1.1, h.1.1.2⟩, h.1.2, h.2⟩
def sn_sum (rest : List Value) : Nat := (rest.map fun v => v.category).sum
/-- what links a call of an instance's method: the class's name, how many arguments -/
def sn_LV (own : String) (index : Nat) (y : MethodName) (cy : ByteArray) (mL : Nat) (ry : Option FieldType) (n : Nat) : Prop :=
  (∀ w ∈ wsV own index y.cls y (Cond.code y cy mL ry :: sn_gw), w ∈ sn_gw) ∧ (y.cls ≠ "java/lang/invoke/MethodHandle" ∧ y.cls ≠ "java/lang/invoke/VarHandle" ∧ (parseMethodDescriptor y.desc).map (fun d => d.parameters.length) = some n)
theorem sn_callV {index mL n q ci : Nat} {y : MethodName} {cy : ByteArray} {ry : Option FieldType} {rm : Room} {As : (Nat → Nat) → List Value} {v : Option ((Nat → Nat) → Value)} {τ : sn_S} {st0 : List Value} {fs : List Nat} {kT : u_T} {kN : Nat}
    (C : sn_C p s m args meth c own cc nL ret D ct ad lay A) (h : sn_H s D ct ad lay A σ H locs) (hM : sn_M l y cy mL ry rm lay (fun ad => .ref (ad q) :: As ad) σ v τ) (L : sn_LV own index y cy mL ry n) (hq : lay[q]? = some (.inr (ci, fs))) (hc : vwCl[ci]? = some (y.cls, kT, kN)) (hR : sn_fit rm R mL = true) (hn : (As ad).length = n)
    (hst : st0 = (As ad).reverse ++ .ref (ad q) :: rest) (hsum : sn_sum rest ≤ 8) (hd : decode cc pc = .ok (.invokevirtual index, 3)) (hls : ls.size = nL)
    (kk : ∀ (H : Heap) (locs : List Loc), sn_H s D ct ad lay A τ H locs → W p l e R s m args below meth c H locs cells slots Q (F0 m (pc + 3) ls ((v.map fun f => f ad).toList ++ rest)))
    (hce : cells ≤ R.cells := by first | exact Nat.zero_le _ | assumption) (hsl : slots ≤ R.slots := by first | exact Nat.zero_le _ | assumption) : W p l e R s m args below meth c H locs cells slots Q (F0 m pc ls st0) := by
  obtain ⟨hfit, hc0, hs0⟩ := sn_fit_spec hR
  have C' := C
  obtain ⟨hx, hb, hml, hown, hts, hr, hlk, hK, hD, hG⟩ := C
  have hg := sn_W_get (ct := ct) (ad := ad) (σ := σ) 0 hq
  rw [Nat.zero_add] at hg
  refine sn_goon (mc := 0) (ms := 0) C' h (va_runV (Ts := sn_gw) (As := As ad) (rest := rest) (n := n) ⟨hx, hb, hml, hown, hts⟩ (hM D ct ad A) (cwV n hts (sn_good L.1) rfl hc0 hs0 ⟨rfl, L.2⟩ hfit) ⟨(sn_pre C' h _).1, va_recv hK h.1 hc hg, (sn_pre C' h _).2⟩ rfl hn hls hst (lv_room hsum) hd ⟨hce, hsl⟩) kk
def sn_LS (own : String) (index : Nat) (y : MethodName) (cy : ByteArray) (mL : Nat) (ry : Option FieldType) (n : Nat) : Prop :=
  (∀ w ∈ va_wsS own index y (Cond.code y cy mL ry :: sn_gw), w ∈ sn_gw) ∧ (y.cls ≠ "java/lang/invoke/MethodHandle" ∧ y.cls ≠ "java/lang/invoke/VarHandle" ∧ (parseMethodDescriptor y.desc).map (fun d => d.parameters.length) = some n)
theorem sn_callS {index mL n : Nat} {y : MethodName} {cy : ByteArray} {ry : Option FieldType} {rm : Room} {As : (Nat → Nat) → List Value} {v : Option ((Nat → Nat) → Value)} {τ : sn_S} {st0 : List Value}
    (C : sn_C p s m args meth c own cc nL ret D ct ad lay A) (h : sn_H s D ct ad lay A σ H locs) (hM : sn_M l y cy mL ry rm lay As σ v τ) (L : sn_LS own index y cy mL ry n) (hR : sn_fit rm R mL = true) (hn : (As ad).length = n)
    (hst : st0 = (As ad).reverse ++ rest) (hsum : sn_sum rest ≤ 8) (hd : decode cc pc = .ok (.invokestatic index, 3)) (hls : ls.size = nL)
    (kk : ∀ (H : Heap) (locs : List Loc), sn_H s D ct ad lay A τ H locs → W p l e R s m args below meth c H locs cells slots Q (F0 m (pc + 3) ls ((v.map fun f => f ad).toList ++ rest)))
    (hce : cells ≤ R.cells := by first | exact Nat.zero_le _ | assumption) (hsl : slots ≤ R.slots := by first | exact Nat.zero_le _ | assumption) : W p l e R s m args below meth c H locs cells slots Q (F0 m pc ls st0) := by
  obtain ⟨hfit, hc0, hs0⟩ := sn_fit_spec hR
  have C' := C
  obtain ⟨hx, hb, hml, hown, hts, hr, hlk, hK, hD, hG⟩ := C
  have hw : ∀ w ∈ Cond.code y cy mL ry :: sn_gw, w ∈ sn_gw := fun w hw => L.1 w (List.mem_append_right _ hw)
  have a1 := hts _ (L.1 (Cond.methodLink own index y) (List.mem_append_left _ (by simp)))
  have a2 := hts _ (L.1 (Cond.static y) (List.mem_append_left _ (by simp)))
  have a3 := hts _ (L.1 (Cond.initialized y.cls) (List.mem_append_left _ (by simp)))
  refine sn_goon (mc := 0) (ms := 0) C' h (va_runS (Ts := sn_gw) (As := As ad) (rest := rest) (n := n) ⟨hx, hb, hml, hown, hts⟩ (hM D ct ad A) ⟨callB_of n hts (sn_good hw) rfl hc0 hs0 a3 a1 L.2 hfit, a2⟩ (sn_pre C' h _) rfl hn hls hst (lv_room hsum) hd ⟨hce, hsl⟩) kk
/-- a nest mate's private method -/
def sn_LN (own : String) (index : Nat) (y : MethodName) (host : String) (cy : ByteArray) (mL : Nat) (ry : Option FieldType) (n : Nat) : Prop :=
  (∀ w ∈ Cond.code y cy mL ry :: sn_gw, w ∈ sn_gw) ∧ (own, index, y, host) ∈ sn_nest ∧ Cond.static y ∈ sn_gw ∧ Cond.initialized y.cls ∈ sn_gw ∧ (y.cls ≠ "java/lang/invoke/MethodHandle" ∧ y.cls ≠ "java/lang/invoke/VarHandle" ∧ (parseMethodDescriptor y.desc).map (fun d => d.parameters.length) = some n)
theorem sn_callN {index mL n : Nat} {y : MethodName} {host : String} {cy : ByteArray} {ry : Option FieldType} {rm : Room} {As : (Nat → Nat) → List Value} {v : Option ((Nat → Nat) → Value)} {τ : sn_S} {st0 : List Value}
    (C : sn_C p s m args meth c own cc nL ret D ct ad lay A) (h : sn_H s D ct ad lay A σ H locs) (hM : sn_M l y cy mL ry rm lay As σ v τ) (L : sn_LN own index y host cy mL ry n) (hR : sn_fit rm R mL = true) (hn : (As ad).length = n)
    (hst : st0 = (As ad).reverse ++ rest) (hsum : sn_sum rest ≤ 8) (hd : decode cc pc = .ok (.invokestatic index, 3)) (hls : ls.size = nL)
    (kk : ∀ (H : Heap) (locs : List Loc), sn_H s D ct ad lay A τ H locs → W p l e R s m args below meth c H locs cells slots Q (F0 m (pc + 3) ls ((v.map fun f => f ad).toList ++ rest)))
    (hce : cells ≤ R.cells := by first | exact Nat.zero_le _ | assumption) (hsl : slots ≤ R.slots := by first | exact Nat.zero_le _ | assumption) : W p l e R s m args below meth c H locs cells slots Q (F0 m pc ls st0) := by
  obtain ⟨hfit, hc0, hs0⟩ := sn_fit_spec hR
  have C' := C
  obtain ⟨hx, hb, hml, hown, hts, hr, hlk, hK, hD, hG⟩ := C
  obtain ⟨L1, L2, L3, L4, L5⟩ := L
  refine sn_goon (mc := 0) (ms := 0) C' h (va_runSN (Ts := sn_gw) (As := As ad) (rest := rest) (n := n) (host := host) ⟨hx, hb, hml, hown, hts⟩ (hM D ct ad A) ⟨va_cnB n hts (sn_good L1) rfl hc0 hs0 (hG.2.2.2.2 _ L2) (hts _ L4) L5 hfit, hts _ L3, trivial⟩ (sn_pre C' h _) rfl hn hls hst (lv_room hsum) hd ⟨hce, hsl⟩) kk
/-! returns -/
/-- at a row of the method, whatever the heap, in this state of the world, with these locals -/
def sn_At (p : Program) (l : Launch) (e : Env) (R : Room) (s : State) (m : MethodId) (args : Array Value) (below : List Frame) (meth : Method) (c : Code) (Q : State → Prop) (D : va_G) (ct : Nat → ClassId) (ad : Nat → Nat) (lay : List sn_E) (A : Nat → Prop) (nL : Nat) (σ : sn_S) (pc : Nat) (lv : List (Nat × Value)) (st : List Value) : Prop :=
  ∀ (H : Heap) (locs : List Loc) (ls : Array Slot), sn_H s D ct ad lay A σ H locs → lv_has ls nL lv → W p l e R s m args below meth c H locs 0 0 Q (F0 m pc ls st)
/-- at a return of a value -/
def sn_Kr (p : Program) (l : Launch) (e : Env) (R : Room) (s : State) (m : MethodId) (args : Array Value) (below : List Frame) (meth : Method) (c : Code) (Q : State → Prop) (D : va_G) (ct : Nat → ClassId) (ad : Nat → Nat) (lay : List sn_E) (A : Nat → Prop) (cc : ByteArray) (ri : Instr) (ok : Bool) (σ : sn_S) (st : List Value) : Prop :=
  ∀ (H : Heap) (locs : List Loc) (ls : Array Slot) (pc : Nat), sn_H s D ct ad lay A σ H locs → ok = true → decode cc pc = .ok (ri, 1) → W p l e R s m args below meth c H locs 0 0 Q (F0 m pc ls st)
theorem sn_iret {v : Int32} (C : sn_C p s m args meth c own cc nL (some .int) D ct ad lay A) (h : sn_H s D ct ad lay A σ H locs) (hd : decode cc pc = .ok (.ireturn, 1)) : W p l e R s m args below meth c H locs 0 0 (MQ below (sn_Q D ct ad lay A (some (.int v)) σ) args s 0 0 A) (F0 m pc ls [.int v]) := by
  obtain ⟨hx, hb, hml, hown, hts, hr, hlk, hK, hD, hG⟩ := C
  exact W.iret hx hb hr (fun t ht hW => ⟨rfl, by rw [ht]; exact h.1, h.2.F ht⟩) h.2.2.2 hd hlk
theorem sn_zret {v : Int32} (C : sn_C p s m args meth c own cc nL (some .boolean) D ct ad lay A) (h : sn_H s D ct ad lay A σ H locs) (hv : sn_b01 v = true) (hd : decode cc pc = .ok (.ireturn, 1)) : W p l e R s m args below meth c H locs 0 0 (MQ below (sn_Q D ct ad lay A (some (.int v)) σ) args s 0 0 A) (F0 m pc ls [.int v]) := by
  obtain ⟨hx, hb, hml, hown, hts, hr, hlk, hK, hD, hG⟩ := C
  have hn : narrow .boolean (.int v) = .int v := by
    unfold sn_b01 at hv
    simp only [Bool.or_eq_true, beq_iff_eq] at hv
    rcases hv with rfl | rfl <;> rfl
  exact W.zret hx hb hr hn (fun t ht hW => ⟨rfl, by rw [ht]; exact h.1, h.2.F ht⟩) h.2.2.2 hd hlk
theorem sn_lret {v : Int64} (C : sn_C p s m args meth c own cc nL (some .long) D ct ad lay A) (h : sn_H s D ct ad lay A σ H locs) (hd : decode cc pc = .ok (.lreturn, 1)) : W p l e R s m args below meth c H locs 0 0 (MQ below (sn_Q D ct ad lay A (some (.long v)) σ) args s 0 0 A) (F0 m pc ls [.long v]) := by
  obtain ⟨hx, hb, hml, hown, hts, hr, hlk, hK, hD, hG⟩ := C
  exact W.lret hx hb hr (fun t ht hW => ⟨rfl, by rw [ht]; exact h.1, h.2.F ht⟩) h.2.2.2 hd hlk
theorem sn_vret (C : sn_C p s m args meth c own cc nL none D ct ad lay A) (h : sn_H s D ct ad lay A σ H locs) (hd : decode cc pc = .ok (.return_, 1)) : W p l e R s m args below meth c H locs 0 0 (MQ below (sn_Q D ct ad lay A none σ) args s 0 0 A) (F0 m pc ls []) := by
  obtain ⟨hx, hb, hml, hown, hts, hr, hlk, hK, hD, hG⟩ := C
  exact W.vret hx hb hr (fun t ht hW => ⟨rfl, by rw [ht]; exact h.1, h.2.F ht⟩) h.2.2.2 hd hlk
theorem sn_aret {q : Nat} {K : String} (C : sn_C p s m args meth c own cc nL (some (.object K)) D ct ad lay A) (h : sn_H s D ct ad lay A σ H locs) (hd : decode cc pc = .ok (.areturn, 1)) : W p l e R s m args below meth c H locs 0 0 (MQ below (sn_Q D ct ad lay A (some (.ref (ad q))) σ) args s 0 0 A) (F0 m pc ls [.ref (ad q)]) := by
  obtain ⟨hx, hb, hml, hown, hts, hr, hlk, hK, hD, hG⟩ := C
  exact W.aret hx hb hr (Or.inl ⟨_, rfl⟩) (Or.inr ⟨_, rfl⟩) (fun t ht hW => ⟨rfl, by rw [ht]; exact h.1, h.2.F ht⟩) h.2.2.2 hd hlk
end RW
/-- a contract, from the walk of the body -/
theorem sn_met {l : Launch} {y : MethodName} {cc : ByteArray} {nL : Nat} {ret : Option FieldType} {rm : Room} {lay : List sn_E} {As : (Nat → Nat) → List Value} {σ τ : sn_S} {v : Option ((Nat → Nat) → Value)} (hy : plainName y.cls = true) (hlen : ∀ ad, (lg_sl (As ad)).length ≤ nL)
    (body : ∀ (p : Program) (e : Env) (s : State) (m : MethodId) (args : Array Value) (below : List Frame) (meth : Method) (c : Code) (ls : Array Slot) (D : va_G) (ct : Nat → ClassId) (ad : Nat → Nat) (A : Nat → Prop), sn_C p s m args meth c y.cls cc nL ret D ct ad lay A → sn_H s D ct ad lay A σ s.heap [] → lv_has ls nL (lv_args 0 (As ad)) →
      W p l e rm s m args below meth c s.heap [] 0 0 (MQ below (sn_Q D ct ad lay A (v.map fun f => f ad) τ) args s 0 0 A) (F0 m 0 ls [])) : sn_M l y cc nL ret rm lay As σ v τ := by
  intro D ct ad A
  refine Met.ofW (cc := cc) (maxL := nL) (ret := ret) hy rfl ?_
  intro p e s m args below meth c s₁ B hml hv
  obtain ⟨rfl, hP, hK, hD0, hG0⟩ := hv
  have hts := atoms_spec (ws := Cond.code y cc nL ret :: sn_gw) B.pre
  have hl := lv_entry (As ad) (n := nL) (hlen ad)
  rw [lg_entry_eq]
  exact body p e s m _ below meth c _ D ct ad A ⟨B.exec, B.bytes, hml, findClass_of_methodNamed B.named, fun w hw => hts w (List.mem_cons_of_mem _ hw), B.returns, B.notSynchronized, hK, hD0, hG0⟩ ⟨hP, va_S.rf⟩ hl
end
section
/-! links of calls, by words -/
theorem sn_cg {w : Cond} (h : w ∈ sn_gw) : ∀ x ∈ w :: sn_gw, x ∈ sn_gw := fun x hx => (List.mem_cons.mp hx).elim (fun e => e ▸ h) id
theorem sn_lv5 {own C : String} {idx : Nat} {y : MethodName} {w : Cond} (h1 : Cond.methodLink own idx y ∈ sn_gw) (h2 : Cond.instanceMethod y ∈ sn_gw) (h3 : Cond.selects C y y ∈ sn_gw) (h4 : Cond.initialized C ∈ sn_gw) (h5 : w ∈ sn_gw) : ∀ x ∈ wsV own idx C y (w :: sn_gw), x ∈ sn_gw := by
  intro x hx
  rcases List.mem_append.mp hx with hx | hx
  · simp only [List.mem_cons, List.not_mem_nil, or_false] at hx
    rcases hx with rfl | rfl | rfl | rfl <;> assumption
  · exact sn_cg h5 x hx
theorem sn_ls4 {own : String} {idx : Nat} {y : MethodName} {w : Cond} (h1 : Cond.methodLink own idx y ∈ sn_gw) (h2 : Cond.static y ∈ sn_gw) (h4 : Cond.initialized y.cls ∈ sn_gw) (h5 : w ∈ sn_gw) : ∀ x ∈ va_wsS own idx y (w :: sn_gw), x ∈ sn_gw := by
  intro x hx
  rcases List.mem_append.mp hx with hx | hx
  · simp only [List.mem_cons, List.not_mem_nil, or_false] at hx
    rcases hx with rfl | rfl | rfl <;> assumption
  · exact sn_cg h5 x hx
theorem sn_look {lay t : List sn_E} {q n k : Nat} {x : sn_E} (h : (lay.drop q).take n = t) (hk : t[k]? = some x) : lay[q + k]? = some x := by
  rw [← h, List.getElem?_take] at hk
  split at hk
  · rw [List.getElem?_drop] at hk
    exact hk
  · cases hk
section RW2
variable {p : Program} {l : Launch} {e : Env} {R : Room} {s : State} {m : MethodId} {args : Array Value} {below : List Frame} {meth : Method} {c : Code} {H : Heap} {locs : List Loc} {Q : State → Prop}
variable {cc : ByteArray} {pc nL : Nat} {ls : Array Slot} {own : String} {ret : Option FieldType} {D : va_G} {ct : Nat → ClassId} {ad : Nat → Nat} {lay : List sn_E} {A : Nat → Prop} {σ : sn_S}
theorem sn_callVi {index mL n q ci : Nat} {fs : List Nat} {kT : u_T} {kN : Nat} {y : MethodName} {cy : ByteArray} {ry : Option FieldType} {rm : Room} {As : (Nat → Nat) → List Value} {τ : sn_S} {st0 : List Value} {x : Int32} (rest : List Value)
    (C : sn_C p s m args meth c own cc nL ret D ct ad lay A) (h : sn_H s D ct ad lay A σ H locs) (hM : sn_M l y cy mL ry rm lay (fun ad => .ref (ad q) :: As ad) σ (some (fun _ => .int x)) τ) (L : sn_LV own index y cy mL ry n) (hq : lay[q]? = some (.inr (ci, fs))) (hc : vwCl[ci]? = some (y.cls, kT, kN)) (hR : sn_fit rm R mL = true) (hn : (As ad).length = n)
    (hst : st0 = (As ad).reverse ++ .ref (ad q) :: rest) (hsum : sn_sum rest ≤ 8) (hd : decode cc pc = .ok (.invokevirtual index, 3)) (hls : ls.size = nL)
    (kk : ∀ (H : Heap) (locs : List Loc), sn_H s D ct ad lay A τ H locs → W p l e R s m args below meth c H locs 0 0 Q (F0 m (pc + 3) ls (.int x :: rest))) : W p l e R s m args below meth c H locs 0 0 Q (F0 m pc ls st0) :=
  sn_callV C h hM L hq hc hR hn hst hsum hd hls kk
theorem sn_callVl {index mL n q ci : Nat} {fs : List Nat} {kT : u_T} {kN : Nat} {y : MethodName} {cy : ByteArray} {ry : Option FieldType} {rm : Room} {As : (Nat → Nat) → List Value} {τ : sn_S} {st0 : List Value} {x : Int64} (rest : List Value)
    (C : sn_C p s m args meth c own cc nL ret D ct ad lay A) (h : sn_H s D ct ad lay A σ H locs) (hM : sn_M l y cy mL ry rm lay (fun ad => .ref (ad q) :: As ad) σ (some (fun _ => .long x)) τ) (L : sn_LV own index y cy mL ry n) (hq : lay[q]? = some (.inr (ci, fs))) (hc : vwCl[ci]? = some (y.cls, kT, kN)) (hR : sn_fit rm R mL = true) (hn : (As ad).length = n)
    (hst : st0 = (As ad).reverse ++ .ref (ad q) :: rest) (hsum : sn_sum rest ≤ 8) (hd : decode cc pc = .ok (.invokevirtual index, 3)) (hls : ls.size = nL)
    (kk : ∀ (H : Heap) (locs : List Loc), sn_H s D ct ad lay A τ H locs → W p l e R s m args below meth c H locs 0 0 Q (F0 m (pc + 3) ls (.long x :: rest))) : W p l e R s m args below meth c H locs 0 0 Q (F0 m pc ls st0) :=
  sn_callV C h hM L hq hc hR hn hst hsum hd hls kk
theorem sn_callVv {index mL n q ci : Nat} {fs : List Nat} {kT : u_T} {kN : Nat} {y : MethodName} {cy : ByteArray} {ry : Option FieldType} {rm : Room} {As : (Nat → Nat) → List Value} {τ : sn_S} {st0 : List Value}  (rest : List Value)
    (C : sn_C p s m args meth c own cc nL ret D ct ad lay A) (h : sn_H s D ct ad lay A σ H locs) (hM : sn_M l y cy mL ry rm lay (fun ad => .ref (ad q) :: As ad) σ none τ) (L : sn_LV own index y cy mL ry n) (hq : lay[q]? = some (.inr (ci, fs))) (hc : vwCl[ci]? = some (y.cls, kT, kN)) (hR : sn_fit rm R mL = true) (hn : (As ad).length = n)
    (hst : st0 = (As ad).reverse ++ .ref (ad q) :: rest) (hsum : sn_sum rest ≤ 8) (hd : decode cc pc = .ok (.invokevirtual index, 3)) (hls : ls.size = nL)
    (kk : ∀ (H : Heap) (locs : List Loc), sn_H s D ct ad lay A τ H locs → W p l e R s m args below meth c H locs 0 0 Q (F0 m (pc + 3) ls (rest))) : W p l e R s m args below meth c H locs 0 0 Q (F0 m pc ls st0) :=
  sn_callV C h hM L hq hc hR hn hst hsum hd hls kk
theorem sn_callVr {index mL n q ci : Nat} {fs : List Nat} {kT : u_T} {kN : Nat} {y : MethodName} {cy : ByteArray} {ry : Option FieldType} {rm : Room} {As : (Nat → Nat) → List Value} {τ : sn_S} {st0 : List Value} {x : Nat} (rest : List Value)
    (C : sn_C p s m args meth c own cc nL ret D ct ad lay A) (h : sn_H s D ct ad lay A σ H locs) (hM : sn_M l y cy mL ry rm lay (fun ad => .ref (ad q) :: As ad) σ (some (fun ad => .ref (ad x))) τ) (L : sn_LV own index y cy mL ry n) (hq : lay[q]? = some (.inr (ci, fs))) (hc : vwCl[ci]? = some (y.cls, kT, kN)) (hR : sn_fit rm R mL = true) (hn : (As ad).length = n)
    (hst : st0 = (As ad).reverse ++ .ref (ad q) :: rest) (hsum : sn_sum rest ≤ 8) (hd : decode cc pc = .ok (.invokevirtual index, 3)) (hls : ls.size = nL)
    (kk : ∀ (H : Heap) (locs : List Loc), sn_H s D ct ad lay A τ H locs → W p l e R s m args below meth c H locs 0 0 Q (F0 m (pc + 3) ls (.ref (ad x) :: rest))) : W p l e R s m args below meth c H locs 0 0 Q (F0 m pc ls st0) :=
  sn_callV C h hM L hq hc hR hn hst hsum hd hls kk
theorem sn_callSi {index mL n : Nat} {y : MethodName} {cy : ByteArray} {ry : Option FieldType} {rm : Room} {As : (Nat → Nat) → List Value} {τ : sn_S} {st0 : List Value} {x : Int32} (rest : List Value)
    (C : sn_C p s m args meth c own cc nL ret D ct ad lay A) (h : sn_H s D ct ad lay A σ H locs) (hM : sn_M l y cy mL ry rm lay As σ (some (fun _ => .int x)) τ) (L : sn_LS own index y cy mL ry n) (hR : sn_fit rm R mL = true) (hn : (As ad).length = n)
    (hst : st0 = (As ad).reverse ++ rest) (hsum : sn_sum rest ≤ 8) (hd : decode cc pc = .ok (.invokestatic index, 3)) (hls : ls.size = nL)
    (kk : ∀ (H : Heap) (locs : List Loc), sn_H s D ct ad lay A τ H locs → W p l e R s m args below meth c H locs 0 0 Q (F0 m (pc + 3) ls (.int x :: rest))) : W p l e R s m args below meth c H locs 0 0 Q (F0 m pc ls st0) :=
  sn_callS C h hM L hR hn hst hsum hd hls kk
theorem sn_callSl {index mL n : Nat} {y : MethodName} {cy : ByteArray} {ry : Option FieldType} {rm : Room} {As : (Nat → Nat) → List Value} {τ : sn_S} {st0 : List Value} {x : Int64} (rest : List Value)
    (C : sn_C p s m args meth c own cc nL ret D ct ad lay A) (h : sn_H s D ct ad lay A σ H locs) (hM : sn_M l y cy mL ry rm lay As σ (some (fun _ => .long x)) τ) (L : sn_LS own index y cy mL ry n) (hR : sn_fit rm R mL = true) (hn : (As ad).length = n)
    (hst : st0 = (As ad).reverse ++ rest) (hsum : sn_sum rest ≤ 8) (hd : decode cc pc = .ok (.invokestatic index, 3)) (hls : ls.size = nL)
    (kk : ∀ (H : Heap) (locs : List Loc), sn_H s D ct ad lay A τ H locs → W p l e R s m args below meth c H locs 0 0 Q (F0 m (pc + 3) ls (.long x :: rest))) : W p l e R s m args below meth c H locs 0 0 Q (F0 m pc ls st0) :=
  sn_callS C h hM L hR hn hst hsum hd hls kk
theorem sn_callSv {index mL n : Nat} {y : MethodName} {cy : ByteArray} {ry : Option FieldType} {rm : Room} {As : (Nat → Nat) → List Value} {τ : sn_S} {st0 : List Value}  (rest : List Value)
    (C : sn_C p s m args meth c own cc nL ret D ct ad lay A) (h : sn_H s D ct ad lay A σ H locs) (hM : sn_M l y cy mL ry rm lay As σ none τ) (L : sn_LS own index y cy mL ry n) (hR : sn_fit rm R mL = true) (hn : (As ad).length = n)
    (hst : st0 = (As ad).reverse ++ rest) (hsum : sn_sum rest ≤ 8) (hd : decode cc pc = .ok (.invokestatic index, 3)) (hls : ls.size = nL)
    (kk : ∀ (H : Heap) (locs : List Loc), sn_H s D ct ad lay A τ H locs → W p l e R s m args below meth c H locs 0 0 Q (F0 m (pc + 3) ls (rest))) : W p l e R s m args below meth c H locs 0 0 Q (F0 m pc ls st0) :=
  sn_callS C h hM L hR hn hst hsum hd hls kk
theorem sn_callNi {index mL n : Nat} {host : String} {y : MethodName} {cy : ByteArray} {ry : Option FieldType} {rm : Room} {As : (Nat → Nat) → List Value} {τ : sn_S} {st0 : List Value} {x : Int32} (rest : List Value)
    (C : sn_C p s m args meth c own cc nL ret D ct ad lay A) (h : sn_H s D ct ad lay A σ H locs) (hM : sn_M l y cy mL ry rm lay As σ (some (fun _ => .int x)) τ) (L : sn_LN own index y host cy mL ry n) (hR : sn_fit rm R mL = true) (hn : (As ad).length = n)
    (hst : st0 = (As ad).reverse ++ rest) (hsum : sn_sum rest ≤ 8) (hd : decode cc pc = .ok (.invokestatic index, 3)) (hls : ls.size = nL)
    (kk : ∀ (H : Heap) (locs : List Loc), sn_H s D ct ad lay A τ H locs → W p l e R s m args below meth c H locs 0 0 Q (F0 m (pc + 3) ls (.int x :: rest))) : W p l e R s m args below meth c H locs 0 0 Q (F0 m pc ls st0) :=
  sn_callN C h hM L hR hn hst hsum hd hls kk
theorem sn_callNl {index mL n : Nat} {host : String} {y : MethodName} {cy : ByteArray} {ry : Option FieldType} {rm : Room} {As : (Nat → Nat) → List Value} {τ : sn_S} {st0 : List Value} {x : Int64} (rest : List Value)
    (C : sn_C p s m args meth c own cc nL ret D ct ad lay A) (h : sn_H s D ct ad lay A σ H locs) (hM : sn_M l y cy mL ry rm lay As σ (some (fun _ => .long x)) τ) (L : sn_LN own index y host cy mL ry n) (hR : sn_fit rm R mL = true) (hn : (As ad).length = n)
    (hst : st0 = (As ad).reverse ++ rest) (hsum : sn_sum rest ≤ 8) (hd : decode cc pc = .ok (.invokestatic index, 3)) (hls : ls.size = nL)
    (kk : ∀ (H : Heap) (locs : List Loc), sn_H s D ct ad lay A τ H locs → W p l e R s m args below meth c H locs 0 0 Q (F0 m (pc + 3) ls (.long x :: rest))) : W p l e R s m args below meth c H locs 0 0 Q (F0 m pc ls st0) :=
  sn_callN C h hM L hR hn hst hsum hd hls kk
theorem sn_callNv {index mL n : Nat} {host : String} {y : MethodName} {cy : ByteArray} {ry : Option FieldType} {rm : Room} {As : (Nat → Nat) → List Value} {τ : sn_S} {st0 : List Value}  (rest : List Value)
    (C : sn_C p s m args meth c own cc nL ret D ct ad lay A) (h : sn_H s D ct ad lay A σ H locs) (hM : sn_M l y cy mL ry rm lay As σ none τ) (L : sn_LN own index y host cy mL ry n) (hR : sn_fit rm R mL = true) (hn : (As ad).length = n)
    (hst : st0 = (As ad).reverse ++ rest) (hsum : sn_sum rest ≤ 8) (hd : decode cc pc = .ok (.invokestatic index, 3)) (hls : ls.size = nL)
    (kk : ∀ (H : Heap) (locs : List Loc), sn_H s D ct ad lay A τ H locs → W p l e R s m args below meth c H locs 0 0 Q (F0 m (pc + 3) ls (rest))) : W p l e R s m args below meth c H locs 0 0 Q (F0 m pc ls st0) :=
  sn_callN C h hM L hR hn hst hsum hd hls kk
/-- a copy within bounds -/
def sn_cpok (sp dp n : Int32) (n0 n1 : Nat) : Bool := decide (0 ≤ sp) && decide (0 ≤ dp) && decide (0 ≤ n) && decide (sp.toNatClampNeg + n.toNatClampNeg ≤ n0) && decide (dp.toNatClampNeg + n.toNatClampNeg ≤ n1)
theorem sn_cpok_spec {sp dp n : Int32} {n0 n1 : Nat} (h : sn_cpok sp dp n n0 n1 = true) : ¬ sp < 0 ∧ ¬ dp < 0 ∧ ¬ n < 0 ∧ sp.toNatClampNeg + n.toNatClampNeg ≤ n0 ∧ dp.toNatClampNeg + n.toNatClampNeg ≤ n1 := by
  unfold sn_cpok at h
  simp only [Bool.and_eq_true, decide_eq_true_eq] at h
  exact ⟨Int32.not_lt.mpr h.1.1.1.1, Int32.not_lt.mpr h.1.1.1.2, Int32.not_lt.mpr h.1.1.2, h.1.2, h.2⟩
theorem sn_cpyI {index q0 q1 n0 n1 : Nat} {r0 r1 : List Nat} {sp dp n : Int32} (rest : List Value) (C : sn_C p s m args meth c own cc nL ret D ct ad lay A) (h : sn_H s D ct ad lay A σ H locs) (w1 : Cond.methodLink own index arraycopyName ∈ sn_gw) (w2 : Cond.native arraycopyName ∈ sn_gw) (w3 : Cond.static arraycopyName ∈ sn_gw) (w4 : Cond.initialized "java/lang/System" ∈ sn_gw)
    (hq0 : lay[q0]? = some (.inl (0, n0, 0, r0))) (hq1 : lay[q1]? = some (.inl (0, n1, 0, r1))) (hok : sn_cpok sp dp n n0 n1 = true) (hfr : 1 ≤ R.frames) (hlo : sn_sum rest + (nativeFrameWords "java/lang/System" "arraycopy" 5 + 11) ≤ R.locals) (hd : decode cc pc = .ok (.invokestatic index, 3)) (hls : ls.size = nL)
    (kk : ∀ (H : Heap) (locs : List Loc), sn_H s D ct ad lay A (sn_wI σ q1 (va_cpy (sn_I σ q0) (sn_I σ q1) sp.toNatClampNeg dp.toNatClampNeg n.toNatClampNeg)) H locs → W p l e R s m args below meth c H locs 0 0 Q (F0 m (pc + 3) ls rest)) :
    W p l e R s m args below meth c H locs 0 0 Q (F0 m pc ls (.int n :: .int dp :: .ref (ad q1) :: .int sp :: .ref (ad q0) :: rest)) := by
  obtain ⟨hx, hb, hml, hown, hts, hr, hlk, hK, hD, hG⟩ := C
  obtain ⟨h1, h2, h3, h4, h5⟩ := sn_cpok_spec hok
  have g0 := sn_W_get (ct := ct) (ad := ad) (σ := σ) 0 hq0
  have g1 := sn_W_get (ct := ct) (ad := ad) (σ := σ) 0 hq1
  rw [Nat.zero_add] at g0 g1
  refine va_copyi (f := sn_I σ q0) (g := sn_I σ q1) (ty := .int) hx hb (hml.trans hls.symm) hown (hts _ w1) (hts _ w2) (hts _ w3) (hts _ w4) hK h.1 (hD σ) h.2 q0 q1 0 0 g0 g1 rfl rfl rfl h1 h2 h3 h4 h5 (fun _ _ => rfl) hfr hlo hd (fun H1 locs1 hP1 _ hS1 => kk H1 locs1 ⟨?_, hS1⟩)
  generalize hf : va_cpy (sn_I σ q0) (sn_I σ q1) sp.toNatClampNeg dp.toNatClampNeg n.toNatClampNeg = f at hP1 ⊢
  have e2 := sn_W_set (ct := ct) (ad := ad) (σ := σ) (τ := sn_wI σ q1 f) 0 hq1 (fun a ha => by
    rw [Nat.zero_add] at ha
    refine ⟨?_, rfl, rfl⟩
    show σ.1 a = if a = q1 then f else σ.1 a
    rw [if_neg ha])
  rw [Nat.zero_add] at e2
  have e3 : sn_I (sn_wI σ q1 f) q1 = f := by
    funext b
    show (if q1 = q1 then f else σ.1 q1) b = f b
    rw [if_pos rfl]
  rw [← e2]
  show va_P D vwCl ((sn_W ct ad σ 0 lay).set q1 (ad q1, .inl (ct 0, n1, .inl (sn_I (sn_wI σ q1 f) q1)))) H1
  rw [e3]
  exact hP1
theorem sn_cpyL {index q0 q1 n0 n1 : Nat} {r0 r1 : List Nat} {sp dp n : Int32} (rest : List Value) (C : sn_C p s m args meth c own cc nL ret D ct ad lay A) (h : sn_H s D ct ad lay A σ H locs) (w1 : Cond.methodLink own index arraycopyName ∈ sn_gw) (w2 : Cond.native arraycopyName ∈ sn_gw) (w3 : Cond.static arraycopyName ∈ sn_gw) (w4 : Cond.initialized "java/lang/System" ∈ sn_gw)
    (hq0 : lay[q0]? = some (.inl (3, n0, 1, r0))) (hq1 : lay[q1]? = some (.inl (3, n1, 1, r1))) (hok : sn_cpok sp dp n n0 n1 = true) (hfr : 1 ≤ R.frames) (hlo : sn_sum rest + (nativeFrameWords "java/lang/System" "arraycopy" 5 + 11) ≤ R.locals) (hd : decode cc pc = .ok (.invokestatic index, 3)) (hls : ls.size = nL)
    (kk : ∀ (H : Heap) (locs : List Loc), sn_H s D ct ad lay A (sn_wL σ q1 (va_cpy (sn_L σ q0) (sn_L σ q1) sp.toNatClampNeg dp.toNatClampNeg n.toNatClampNeg)) H locs → W p l e R s m args below meth c H locs 0 0 Q (F0 m (pc + 3) ls rest)) :
    W p l e R s m args below meth c H locs 0 0 Q (F0 m pc ls (.int n :: .int dp :: .ref (ad q1) :: .int sp :: .ref (ad q0) :: rest)) := by
  obtain ⟨hx, hb, hml, hown, hts, hr, hlk, hK, hD, hG⟩ := C
  obtain ⟨h1, h2, h3, h4, h5⟩ := sn_cpok_spec hok
  have g0 := sn_W_get (ct := ct) (ad := ad) (σ := σ) 0 hq0
  have g1 := sn_W_get (ct := ct) (ad := ad) (σ := σ) 0 hq1
  rw [Nat.zero_add] at g0 g1
  refine va_copyl (f := sn_L σ q0) (g := sn_L σ q1) (ty := .long) hx hb (hml.trans hls.symm) hown (hts _ w1) (hts _ w2) (hts _ w3) (hts _ w4) hK h.1 (hD σ) h.2 q0 q1 3 3 g0 g1 rfl rfl rfl h1 h2 h3 h4 h5 (fun _ _ => rfl) hfr hlo hd (fun H1 locs1 hP1 _ hS1 => kk H1 locs1 ⟨?_, hS1⟩)
  generalize hf : va_cpy (sn_L σ q0) (sn_L σ q1) sp.toNatClampNeg dp.toNatClampNeg n.toNatClampNeg = f at hP1 ⊢
  have e2 := sn_W_set (ct := ct) (ad := ad) (σ := σ) (τ := sn_wL σ q1 f) 0 hq1 (fun a ha => by
    rw [Nat.zero_add] at ha
    refine ⟨rfl, ?_, rfl⟩
    show σ.2.1 a = if a = q1 then f else σ.2.1 a
    rw [if_neg ha])
  rw [Nat.zero_add] at e2
  have e3 : sn_L (sn_wL σ q1 f) q1 = f := by
    funext b
    show (if q1 = q1 then f else σ.2.1 q1) b = f b
    rw [if_pos rfl]
  rw [← e2]
  show va_P D vwCl ((sn_W ct ad σ 0 lay).set q1 (ad q1, .inl (ct 3, n1, .inr (.inl (sn_L (sn_wL σ q1 f) q1))))) H1
  rw [e3]
  exact hP1
end RW2
end
section
theorem kva_0 : RJ0 ≠ "java/lang/invoke/MethodHandle" := by decide +kernel
theorem kvb_0 : RJ0 ≠ "java/lang/invoke/VarHandle" := by decide +kernel
theorem kpd_0 : (parseMethodDescriptor "()B").map (fun d => d.parameters.length) = some 0 := by decide +kernel
theorem kpd_1 : (parseMethodDescriptor "()Z").map (fun d => d.parameters.length) = some 0 := by decide +kernel
theorem kva_1 : RJ1 ≠ "java/lang/invoke/MethodHandle" := by decide +kernel
theorem kvb_1 : RJ1 ≠ "java/lang/invoke/VarHandle" := by decide +kernel
theorem kpd_2 : (parseMethodDescriptor "([BI)C").map (fun d => d.parameters.length) = some 2 := by decide +kernel
theorem kpd_3 : (parseMethodDescriptor "(II)V").map (fun d => d.parameters.length) = some 2 := by decide +kernel
theorem kva_2 : RJ3 ≠ "java/lang/invoke/MethodHandle" := by decide +kernel
theorem kvb_2 : RJ3 ≠ "java/lang/invoke/VarHandle" := by decide +kernel
theorem kpd_4 : (parseMethodDescriptor "(IILjava/util/function/BiFunction;)I").map (fun d => d.parameters.length) = some 3 := by decide +kernel
theorem kva_3 : RX9 ≠ "java/lang/invoke/MethodHandle" := by decide +kernel
theorem kvb_3 : RX9 ≠ "java/lang/invoke/VarHandle" := by decide +kernel
theorem kpd_5 : (parseMethodDescriptor "(JJJ)Z").map (fun d => d.parameters.length) = some 3 := by decide +kernel
theorem kpd_6 : (parseMethodDescriptor "(I)I").map (fun d => d.parameters.length) = some 1 := by decide +kernel
theorem kpd_7 : (parseMethodDescriptor "()I").map (fun d => d.parameters.length) = some 0 := by decide +kernel
theorem kpd_8 : (parseMethodDescriptor "(I)C").map (fun d => d.parameters.length) = some 1 := by decide +kernel
theorem kpd_9 : (parseMethodDescriptor "(Ljava/lang/String;)Z").map (fun d => d.parameters.length) = some 1 := by decide +kernel
theorem kpd_10 : (parseMethodDescriptor "()V").map (fun d => d.parameters.length) = some 0 := by decide +kernel
theorem kpd_11 : (parseMethodDescriptor "(I)V").map (fun d => d.parameters.length) = some 1 := by decide +kernel
theorem kpd_12 : (parseMethodDescriptor "(Ljava/lang/String;)V").map (fun d => d.parameters.length) = some 1 := by decide +kernel
theorem kpd_13 : (parseMethodDescriptor "(II)I").map (fun d => d.parameters.length) = some 2 := by decide +kernel
theorem kpd_14 : (parseMethodDescriptor "(Ljava/lang/String;II)I").map (fun d => d.parameters.length) = some 3 := by decide +kernel
theorem kpd_15 : (parseMethodDescriptor "(J)Z").map (fun d => d.parameters.length) = some 1 := by decide +kernel
theorem kpd_16 : (parseMethodDescriptor "(I)Z").map (fun d => d.parameters.length) = some 1 := by decide +kernel
theorem kpd_17 : (parseMethodDescriptor "(IIII)I").map (fun d => d.parameters.length) = some 4 := by decide +kernel
theorem kpd_18 : (parseMethodDescriptor "(IIZ)I").map (fun d => d.parameters.length) = some 3 := by decide +kernel
theorem kpd_19 : (parseMethodDescriptor "(III)I").map (fun d => d.parameters.length) = some 3 := by decide +kernel
theorem kpd_20 : (parseMethodDescriptor "(II)Z").map (fun d => d.parameters.length) = some 2 := by decide +kernel
theorem kpd_21 : (parseMethodDescriptor "(IIII)V").map (fun d => d.parameters.length) = some 4 := by decide +kernel
theorem kpd_22 : (parseMethodDescriptor "(II)J").map (fun d => d.parameters.length) = some 2 := by decide +kernel
theorem kpd_23 : (parseMethodDescriptor "(IIIII)I").map (fun d => d.parameters.length) = some 5 := by decide +kernel
theorem kpd_24 : (parseMethodDescriptor "(JJ)J").map (fun d => d.parameters.length) = some 2 := by decide +kernel
theorem kpd_25 : (parseMethodDescriptor "(III)V").map (fun d => d.parameters.length) = some 3 := by decide +kernel
theorem kpd_26 : (parseMethodDescriptor "(JJI)J").map (fun d => d.parameters.length) = some 3 := by decide +kernel
theorem kpd_27 : (parseMethodDescriptor "(J)I").map (fun d => d.parameters.length) = some 1 := by decide +kernel
theorem kpd_28 : (parseMethodDescriptor "(JI)J").map (fun d => d.parameters.length) = some 2 := by decide +kernel
theorem kva_4 : RJ7 ≠ "java/lang/invoke/MethodHandle" := by decide +kernel
theorem kvb_4 : RJ7 ≠ "java/lang/invoke/VarHandle" := by decide +kernel
theorem kpd_29 : (parseMethodDescriptor "([II)V").map (fun d => d.parameters.length) = some 2 := by decide +kernel
theorem kva_5 : RX2 ≠ "java/lang/invoke/MethodHandle" := by decide +kernel
theorem kvb_5 : RX2 ≠ "java/lang/invoke/VarHandle" := by decide +kernel
theorem kva_6 : RX8 ≠ "java/lang/invoke/MethodHandle" := by decide +kernel
theorem kvb_6 : RX8 ≠ "java/lang/invoke/VarHandle" := by decide +kernel
theorem kva_7 : RX0 ≠ "java/lang/invoke/MethodHandle" := by decide +kernel
theorem kvb_7 : RX0 ≠ "java/lang/invoke/VarHandle" := by decide +kernel
theorem kva_8 : RJ6 ≠ "java/lang/invoke/MethodHandle" := by decide +kernel
theorem kvb_8 : RJ6 ≠ "java/lang/invoke/VarHandle" := by decide +kernel
theorem kva_9 : RX1 ≠ "java/lang/invoke/MethodHandle" := by decide +kernel
theorem kvb_9 : RX1 ≠ "java/lang/invoke/VarHandle" := by decide +kernel
theorem kpd_30 : (parseMethodDescriptor "(LPepperPolicy$Day;IIII)V").map (fun d => d.parameters.length) = some 5 := by decide +kernel
theorem kpd_31 : (parseMethodDescriptor "([JJ)V").map (fun d => d.parameters.length) = some 2 := by decide +kernel
theorem kva_10 : RX3 ≠ "java/lang/invoke/MethodHandle" := by decide +kernel
theorem kvb_10 : RX3 ≠ "java/lang/invoke/VarHandle" := by decide +kernel
theorem kpd_32 : (parseMethodDescriptor "(LPepperPolicy$House;III)I").map (fun d => d.parameters.length) = some 4 := by decide +kernel
theorem kpd_33 : (parseMethodDescriptor "(LPepperPolicy$House;IIII)I").map (fun d => d.parameters.length) = some 5 := by decide +kernel
theorem kpd_34 : (parseMethodDescriptor "(LPepperPolicy$House;LPepperPolicy$Day;I)V").map (fun d => d.parameters.length) = some 3 := by decide +kernel
theorem kva_11 : RX4 ≠ "java/lang/invoke/MethodHandle" := by decide +kernel
theorem kvb_11 : RX4 ≠ "java/lang/invoke/VarHandle" := by decide +kernel
theorem kpd_35 : (parseMethodDescriptor "(LPepperPolicy$House;III)J").map (fun d => d.parameters.length) = some 4 := by decide +kernel
theorem kpd_36 : (parseMethodDescriptor "(LPepperPolicy$Day;)V").map (fun d => d.parameters.length) = some 1 := by decide +kernel
theorem kva_12 : RX5 ≠ "java/lang/invoke/MethodHandle" := by decide +kernel
theorem kvb_12 : RX5 ≠ "java/lang/invoke/VarHandle" := by decide +kernel
theorem kva_13 : RX6 ≠ "java/lang/invoke/MethodHandle" := by decide +kernel
theorem kvb_13 : RX6 ≠ "java/lang/invoke/VarHandle" := by decide +kernel
theorem kva_14 : RX7 ≠ "java/lang/invoke/MethodHandle" := by decide +kernel
theorem kvb_14 : RX7 ≠ "java/lang/invoke/VarHandle" := by decide +kernel
theorem kpd_37 : (parseMethodDescriptor "(LPepperPolicy$Day;I)Z").map (fun d => d.parameters.length) = some 2 := by decide +kernel
theorem kpd_38 : (parseMethodDescriptor "(LPepperPolicy$Day;II)V").map (fun d => d.parameters.length) = some 3 := by decide +kernel
theorem kpd_39 : (parseMethodDescriptor "(LPepperPolicy$House;)V").map (fun d => d.parameters.length) = some 1 := by decide +kernel
theorem kpd_40 : (parseMethodDescriptor "()LPepperPolicy$Ledger;").map (fun d => d.parameters.length) = some 0 := by decide +kernel
theorem kpd_41 : (parseMethodDescriptor "(LPepperPolicy$Day;LPepperPolicy$Day;)V").map (fun d => d.parameters.length) = some 2 := by decide +kernel
theorem kpd_42 : (parseMethodDescriptor "(LPepperPolicy$House;LPepperPolicy$Day;III)V").map (fun d => d.parameters.length) = some 5 := by decide +kernel
theorem kpd_43 : (parseMethodDescriptor "(III)Z").map (fun d => d.parameters.length) = some 3 := by decide +kernel
theorem kpd_44 : (parseMethodDescriptor "(IIJ)V").map (fun d => d.parameters.length) = some 3 := by decide +kernel
def layM : List sn_E := [.inr (9, [0, 4, 5, 6, 7, 0, 8, 0, 0, 0, 0, 0, 0, 0, 9, 10, 11, 12, 0, 0, 0, 0, 0, 13, 14, 15, 16, 17, 18, 19, 0, 0, 20, 21, 22, 23, 0, 0, 1, 1, 1, 1, 24, 25, 26, 27]), .inl (0, 119, 0, []), .inl (0, 357, 0, []), .inl (1, 3, 0, []), .inl (2, 900, 0, []), .inl (0, 5, 0, []), .inl (0, 119, 0, []), .inl (0, 30, 0, []), .inl (0, 6, 0, []), .inl (0, 6, 0, []), .inl (0, 6, 0, []), .inl (0, 30, 0, []), .inl (0, 180, 0, []), .inl (0, 180, 0, []), .inl (0, 6, 0, []), .inl (0, 6, 0, []), .inl (0, 30, 0, []), .inl (0, 961, 0, []), .inl (0, 961, 0, []), .inl (0, 270, 0, []), .inl (0, 1620, 0, []), .inl (0, 4, 0, []), .inl (0, 4, 0, []), .inl (3, 240, 1, []), .inl (3, 60, 1, [])]
abbrev lqM_P (k : Nat) (x : sn_E) : Prop := layM[k]? = some x
theorem layM_0 : lqM_P 0 (.inr (9, [0, 4, 5, 6, 7, 0, 8, 0, 0, 0, 0, 0, 0, 0, 9, 10, 11, 12, 0, 0, 0, 0, 0, 13, 14, 15, 16, 17, 18, 19, 0, 0, 20, 21, 22, 23, 0, 0, 1, 1, 1, 1, 24, 25, 26, 27])) := rfl
theorem layM_1 : lqM_P 1 (.inl (0, 119, 0, [])) := rfl
theorem layM_2 : lqM_P 2 (.inl (0, 357, 0, [])) := rfl
theorem layM_3 : lqM_P 3 (.inl (1, 3, 0, [])) := rfl
theorem layM_4 : lqM_P 4 (.inl (2, 900, 0, [])) := rfl
theorem layM_5 : lqM_P 5 (.inl (0, 5, 0, [])) := rfl
theorem layM_6 : lqM_P 6 (.inl (0, 119, 0, [])) := rfl
theorem layM_7 : lqM_P 7 (.inl (0, 30, 0, [])) := rfl
theorem layM_8 : lqM_P 8 (.inl (0, 6, 0, [])) := rfl
theorem layM_9 : lqM_P 9 (.inl (0, 6, 0, [])) := rfl
theorem layM_10 : lqM_P 10 (.inl (0, 6, 0, [])) := rfl
theorem layM_11 : lqM_P 11 (.inl (0, 30, 0, [])) := rfl
theorem layM_12 : lqM_P 12 (.inl (0, 180, 0, [])) := rfl
theorem layM_13 : lqM_P 13 (.inl (0, 180, 0, [])) := rfl
theorem layM_14 : lqM_P 14 (.inl (0, 6, 0, [])) := rfl
theorem layM_15 : lqM_P 15 (.inl (0, 6, 0, [])) := rfl
theorem layM_16 : lqM_P 16 (.inl (0, 30, 0, [])) := rfl
theorem layM_17 : lqM_P 17 (.inl (0, 961, 0, [])) := rfl
theorem layM_18 : lqM_P 18 (.inl (0, 961, 0, [])) := rfl
theorem layM_19 : lqM_P 19 (.inl (0, 270, 0, [])) := rfl
theorem layM_20 : lqM_P 20 (.inl (0, 1620, 0, [])) := rfl
theorem layM_21 : lqM_P 21 (.inl (0, 4, 0, [])) := rfl
theorem layM_22 : lqM_P 22 (.inl (0, 4, 0, [])) := rfl
theorem layM_23 : lqM_P 23 (.inl (3, 240, 1, [])) := rfl
theorem layM_24 : lqM_P 24 (.inl (3, 60, 1, [])) := rfl
def layC : List sn_E := [.inr (8, [4, 11, 18, 19, 20, 22, 30, 41, 52, 55, 57, 60]), .inr (2, [5, 6, 7, 8, 9, 10]), .inl (0, 11, 0, []), .inl (0, 12, 0, []), .inl (0, 10, 0, []), .inl (0, 16, 0, []), .inl (0, 30, 0, []), .inl (0, 120, 0, []), .inr (2, [12, 13, 14, 15, 16, 17]), .inl (0, 11, 0, []), .inl (0, 12, 0, []), .inl (0, 10, 0, []), .inl (0, 16, 0, []), .inl (0, 30, 0, []), .inl (0, 120, 0, []), .inl (4, 3, 2, [73, 80, 87]), .inl (1, 3, 0, []), .inr (5, [21, 0, 0, 0, 0, 0, 0, 2]), .inl (0, 900, 0, []), .inr (6, [23, 28, 29]), .inl (5, 4, 2, [21, 22, 23, 24]), .inl (3, 60, 1, []), .inl (3, 60, 1, []), .inl (3, 60, 1, []), .inl (3, 60, 1, []), .inl (0, 4, 0, []), .inl (0, 4, 0, []), .inr (0, [0, 0, 0, 0, 31, 32, 33, 34, 35, 36, 37, 38, 39, 40]), .inl (0, 30, 0, []), .inl (0, 6, 0, []), .inl (0, 6, 0, []), .inl (0, 6, 0, []), .inl (0, 6, 0, []), .inl (0, 16, 0, []), .inl (0, 180, 0, []), .inl (0, 180, 0, []), .inl (0, 30, 0, []), .inl (0, 6, 0, []), .inr (0, [0, 0, 0, 0, 42, 43, 44, 45, 46, 47, 48, 49, 50, 51]), .inl (0, 30, 0, []), .inl (0, 6, 0, []), .inl (0, 6, 0, []), .inl (0, 6, 0, []), .inl (0, 6, 0, []), .inl (0, 16, 0, []), .inl (0, 180, 0, []), .inl (0, 180, 0, []), .inl (0, 30, 0, []), .inl (0, 6, 0, []), .inr (3, [53, 54, 0, 0]), .inl (0, 6, 0, []), .inl (0, 6, 0, []), .inr (1, [56, 1]), .inl (3, 31, 1, []), .inr (7, [58, 0, 0, 0, 59]), .inl (0, 6, 0, []), .inl (0, 186, 0, []), .inr (4, [1, 1, 61, 62, 73]), .inl (3, 9, 1, []), .inr (0, [0, 0, 0, 0, 63, 64, 65, 66, 67, 68, 69, 70, 71, 72]), .inl (0, 30, 0, []), .inl (0, 6, 0, []), .inl (0, 6, 0, []), .inl (0, 6, 0, []), .inl (0, 6, 0, []), .inl (0, 16, 0, []), .inl (0, 180, 0, []), .inl (0, 180, 0, []), .inl (0, 30, 0, []), .inl (0, 6, 0, []), .inr (3, [74, 75, 0, 0]), .inl (0, 6, 0, []), .inl (0, 6, 0, []), .inr (2, [77, 78, 79, 80, 81, 82]), .inl (0, 11, 0, []), .inl (0, 12, 0, []), .inl (0, 10, 0, []), .inl (0, 16, 0, []), .inl (0, 30, 0, []), .inl (0, 120, 0, []), .inr (2, [84, 85, 86, 87, 88, 89]), .inl (0, 11, 0, []), .inl (0, 12, 0, []), .inl (0, 10, 0, []), .inl (0, 16, 0, []), .inl (0, 30, 0, []), .inl (0, 120, 0, []), .inr (2, [91, 92, 93, 94, 95, 96]), .inl (0, 11, 0, []), .inl (0, 12, 0, []), .inl (0, 10, 0, []), .inl (0, 16, 0, []), .inl (0, 30, 0, []), .inl (0, 120, 0, [])]
abbrev lqC_P (k : Nat) (x : sn_E) : Prop := layC[k]? = some x
theorem layC_0 : lqC_P 0 (.inr (8, [4, 11, 18, 19, 20, 22, 30, 41, 52, 55, 57, 60])) := rfl
theorem layC_1 : lqC_P 1 (.inr (2, [5, 6, 7, 8, 9, 10])) := rfl
theorem layC_2 : lqC_P 2 (.inl (0, 11, 0, [])) := rfl
theorem layC_3 : lqC_P 3 (.inl (0, 12, 0, [])) := rfl
theorem layC_4 : lqC_P 4 (.inl (0, 10, 0, [])) := rfl
theorem layC_5 : lqC_P 5 (.inl (0, 16, 0, [])) := rfl
theorem layC_6 : lqC_P 6 (.inl (0, 30, 0, [])) := rfl
theorem layC_7 : lqC_P 7 (.inl (0, 120, 0, [])) := rfl
theorem layC_8 : lqC_P 8 (.inr (2, [12, 13, 14, 15, 16, 17])) := rfl
theorem layC_9 : lqC_P 9 (.inl (0, 11, 0, [])) := rfl
theorem layC_10 : lqC_P 10 (.inl (0, 12, 0, [])) := rfl
theorem layC_11 : lqC_P 11 (.inl (0, 10, 0, [])) := rfl
theorem layC_12 : lqC_P 12 (.inl (0, 16, 0, [])) := rfl
theorem layC_13 : lqC_P 13 (.inl (0, 30, 0, [])) := rfl
theorem layC_14 : lqC_P 14 (.inl (0, 120, 0, [])) := rfl
theorem layC_15 : lqC_P 15 (.inl (4, 3, 2, [73, 80, 87])) := rfl
theorem layC_16 : lqC_P 16 (.inl (1, 3, 0, [])) := rfl
theorem layC_17 : lqC_P 17 (.inr (5, [21, 0, 0, 0, 0, 0, 0, 2])) := rfl
theorem layC_18 : lqC_P 18 (.inl (0, 900, 0, [])) := rfl
theorem layC_19 : lqC_P 19 (.inr (6, [23, 28, 29])) := rfl
theorem layC_20 : lqC_P 20 (.inl (5, 4, 2, [21, 22, 23, 24])) := rfl
theorem layC_21 : lqC_P 21 (.inl (3, 60, 1, [])) := rfl
theorem layC_22 : lqC_P 22 (.inl (3, 60, 1, [])) := rfl
theorem layC_23 : lqC_P 23 (.inl (3, 60, 1, [])) := rfl
theorem layC_24 : lqC_P 24 (.inl (3, 60, 1, [])) := rfl
theorem layC_25 : lqC_P 25 (.inl (0, 4, 0, [])) := rfl
theorem layC_26 : lqC_P 26 (.inl (0, 4, 0, [])) := rfl
theorem layC_27 : lqC_P 27 (.inr (0, [0, 0, 0, 0, 31, 32, 33, 34, 35, 36, 37, 38, 39, 40])) := rfl
theorem layC_28 : lqC_P 28 (.inl (0, 30, 0, [])) := rfl
theorem layC_29 : lqC_P 29 (.inl (0, 6, 0, [])) := rfl
theorem layC_30 : lqC_P 30 (.inl (0, 6, 0, [])) := rfl
theorem layC_31 : lqC_P 31 (.inl (0, 6, 0, [])) := rfl
theorem layC_32 : lqC_P 32 (.inl (0, 6, 0, [])) := rfl
theorem layC_33 : lqC_P 33 (.inl (0, 16, 0, [])) := rfl
theorem layC_34 : lqC_P 34 (.inl (0, 180, 0, [])) := rfl
theorem layC_35 : lqC_P 35 (.inl (0, 180, 0, [])) := rfl
theorem layC_36 : lqC_P 36 (.inl (0, 30, 0, [])) := rfl
theorem layC_37 : lqC_P 37 (.inl (0, 6, 0, [])) := rfl
theorem layC_38 : lqC_P 38 (.inr (0, [0, 0, 0, 0, 42, 43, 44, 45, 46, 47, 48, 49, 50, 51])) := rfl
theorem layC_39 : lqC_P 39 (.inl (0, 30, 0, [])) := rfl
theorem layC_40 : lqC_P 40 (.inl (0, 6, 0, [])) := rfl
theorem layC_41 : lqC_P 41 (.inl (0, 6, 0, [])) := rfl
theorem layC_42 : lqC_P 42 (.inl (0, 6, 0, [])) := rfl
theorem layC_43 : lqC_P 43 (.inl (0, 6, 0, [])) := rfl
theorem layC_44 : lqC_P 44 (.inl (0, 16, 0, [])) := rfl
theorem layC_45 : lqC_P 45 (.inl (0, 180, 0, [])) := rfl
theorem layC_46 : lqC_P 46 (.inl (0, 180, 0, [])) := rfl
theorem layC_47 : lqC_P 47 (.inl (0, 30, 0, [])) := rfl
theorem layC_48 : lqC_P 48 (.inl (0, 6, 0, [])) := rfl
theorem layC_49 : lqC_P 49 (.inr (3, [53, 54, 0, 0])) := rfl
theorem layC_50 : lqC_P 50 (.inl (0, 6, 0, [])) := rfl
theorem layC_51 : lqC_P 51 (.inl (0, 6, 0, [])) := rfl
theorem layC_52 : lqC_P 52 (.inr (1, [56, 1])) := rfl
theorem layC_53 : lqC_P 53 (.inl (3, 31, 1, [])) := rfl
theorem layC_54 : lqC_P 54 (.inr (7, [58, 0, 0, 0, 59])) := rfl
theorem layC_55 : lqC_P 55 (.inl (0, 6, 0, [])) := rfl
theorem layC_56 : lqC_P 56 (.inl (0, 186, 0, [])) := rfl
theorem layC_57 : lqC_P 57 (.inr (4, [1, 1, 61, 62, 73])) := rfl
theorem layC_58 : lqC_P 58 (.inl (3, 9, 1, [])) := rfl
theorem layC_59 : lqC_P 59 (.inr (0, [0, 0, 0, 0, 63, 64, 65, 66, 67, 68, 69, 70, 71, 72])) := rfl
theorem layC_60 : lqC_P 60 (.inl (0, 30, 0, [])) := rfl
theorem layC_61 : lqC_P 61 (.inl (0, 6, 0, [])) := rfl
theorem layC_62 : lqC_P 62 (.inl (0, 6, 0, [])) := rfl
theorem layC_63 : lqC_P 63 (.inl (0, 6, 0, [])) := rfl
theorem layC_64 : lqC_P 64 (.inl (0, 6, 0, [])) := rfl
theorem layC_65 : lqC_P 65 (.inl (0, 16, 0, [])) := rfl
theorem layC_66 : lqC_P 66 (.inl (0, 180, 0, [])) := rfl
theorem layC_67 : lqC_P 67 (.inl (0, 180, 0, [])) := rfl
theorem layC_68 : lqC_P 68 (.inl (0, 30, 0, [])) := rfl
theorem layC_69 : lqC_P 69 (.inl (0, 6, 0, [])) := rfl
theorem layC_70 : lqC_P 70 (.inr (3, [74, 75, 0, 0])) := rfl
theorem layC_71 : lqC_P 71 (.inl (0, 6, 0, [])) := rfl
theorem layC_72 : lqC_P 72 (.inl (0, 6, 0, [])) := rfl
theorem layC_73 : lqC_P 73 (.inr (2, [77, 78, 79, 80, 81, 82])) := rfl
theorem layC_74 : lqC_P 74 (.inl (0, 11, 0, [])) := rfl
theorem layC_75 : lqC_P 75 (.inl (0, 12, 0, [])) := rfl
theorem layC_76 : lqC_P 76 (.inl (0, 10, 0, [])) := rfl
theorem layC_77 : lqC_P 77 (.inl (0, 16, 0, [])) := rfl
theorem layC_78 : lqC_P 78 (.inl (0, 30, 0, [])) := rfl
theorem layC_79 : lqC_P 79 (.inl (0, 120, 0, [])) := rfl
theorem layC_80 : lqC_P 80 (.inr (2, [84, 85, 86, 87, 88, 89])) := rfl
theorem layC_81 : lqC_P 81 (.inl (0, 11, 0, [])) := rfl
theorem layC_82 : lqC_P 82 (.inl (0, 12, 0, [])) := rfl
theorem layC_83 : lqC_P 83 (.inl (0, 10, 0, [])) := rfl
theorem layC_84 : lqC_P 84 (.inl (0, 16, 0, [])) := rfl
theorem layC_85 : lqC_P 85 (.inl (0, 30, 0, [])) := rfl
theorem layC_86 : lqC_P 86 (.inl (0, 120, 0, [])) := rfl
theorem layC_87 : lqC_P 87 (.inr (2, [91, 92, 93, 94, 95, 96])) := rfl
theorem layC_88 : lqC_P 88 (.inl (0, 11, 0, [])) := rfl
theorem layC_89 : lqC_P 89 (.inl (0, 12, 0, [])) := rfl
theorem layC_90 : lqC_P 90 (.inl (0, 10, 0, [])) := rfl
theorem layC_91 : lqC_P 91 (.inl (0, 16, 0, [])) := rfl
theorem layC_92 : lqC_P 92 (.inl (0, 30, 0, [])) := rfl
theorem layC_93 : lqC_P 93 (.inl (0, 120, 0, [])) := rfl
def sn_tX2 (q : Nat) : List sn_E := [.inr (2, [(q + 1) + 3, (q + 2) + 3, (q + 3) + 3, (q + 4) + 3, (q + 5) + 3, (q + 6) + 3]), .inl (0, 11, 0, []), .inl (0, 12, 0, []), .inl (0, 10, 0, []), .inl (0, 16, 0, []), .inl (0, 30, 0, []), .inl (0, 120, 0, [])]
def sn_isX2 (q : Nat) : Prop := (layC.drop q).take 7 = sn_tX2 q
def sn_tX0 (q : Nat) : List sn_E := [.inr (0, [0, 0, 0, 0, (q + 1) + 3, (q + 2) + 3, (q + 3) + 3, (q + 4) + 3, (q + 5) + 3, (q + 6) + 3, (q + 7) + 3, (q + 8) + 3, (q + 9) + 3, (q + 10) + 3]), .inl (0, 30, 0, []), .inl (0, 6, 0, []), .inl (0, 6, 0, []), .inl (0, 6, 0, []), .inl (0, 6, 0, []), .inl (0, 16, 0, []), .inl (0, 180, 0, []), .inl (0, 180, 0, []), .inl (0, 30, 0, []), .inl (0, 6, 0, [])]
def sn_isX0 (q : Nat) : Prop := (layC.drop q).take 11 = sn_tX0 q
def sn_tX3 (q : Nat) : List sn_E := [.inr (3, [(q + 1) + 3, (q + 2) + 3, 0, 0]), .inl (0, 6, 0, []), .inl (0, 6, 0, [])]
def sn_isX3 (q : Nat) : Prop := (layC.drop q).take 3 = sn_tX3 q
theorem sn_isX2_1 : sn_isX2 1 := rfl
theorem sn_isX2_8 : sn_isX2 8 := rfl
theorem sn_isX2_73 : sn_isX2 73 := rfl
theorem sn_isX2_80 : sn_isX2 80 := rfl
theorem sn_isX2_87 : sn_isX2 87 := rfl
theorem sn_isX0_27 : sn_isX0 27 := rfl
theorem sn_isX0_38 : sn_isX0 38 := rfl
theorem sn_isX0_59 : sn_isX0 59 := rfl
theorem sn_isX3_49 : sn_isX3 49 := rfl
theorem sn_isX3_70 : sn_isX3 70 := rfl
abbrev sn_rs15 : List Nat := [73, 80, 87]
abbrev sn_rs20 : List Nat := [21, 22, 23, 24]
theorem sn_in_nat {i : Int32} {n : Nat} (h : sn_in i n = true) : i.toNatClampNeg < n := by
  unfold sn_in at h
  simp only [Bool.and_eq_true, decide_eq_true_eq] at h
  exact h.2
theorem sn_rs_house {i : Int32} (h : sn_in i 3 = true) : sn_isX2 (sn_at sn_rs15 i) := by
  have h1 := sn_in_nat h
  unfold sn_at
  generalize i.toNatClampNeg = j at h1
  match j, h1 with
  | 0, _ => exact sn_isX2_73
  | 1, _ => exact sn_isX2_80
  | 2, _ => exact sn_isX2_87
theorem sn_rs_row {i : Int32} (h : sn_in i 4 = true) : layC[sn_at sn_rs20 i]? = some (.inl (3, 60, 1, [])) := by
  have h1 := sn_in_nat h
  unfold sn_at
  generalize i.toNatClampNeg = j at h1
  match j, h1 with
  | 0, _ => rfl
  | 1, _ => rfl
  | 2, _ => rfl
  | 3, _ => rfl
theorem sn_swout3 {x : Int32} (h0 : ¬ x = 0) (h1 : ¬ x = 1) (h2 : ¬ x = 2) : x.toInt < 0 ∨ 2 < x.toInt := by
  have a0 : x.toInt ≠ 0 := fun q => h0 (Int32.toInt_inj.mp q)
  have a1 : x.toInt ≠ 1 := fun q => h1 (Int32.toInt_inj.mp q)
  have a2 : x.toInt ≠ 2 := fun q => h2 (Int32.toInt_inj.mp q)
  omega
theorem sn_sr_0 {ad : Nat → Nat} {A : Nat → Prop} {s : State} {H : Heap} (h : sn_bg ad A s H) : vk_R RX5 52 "house" (ad (1000 + 0)) s := h.2.1 (RX5, 52, "house", 0) (List.mem_of_getElem? (i := 0) rfl)
theorem sn_sr_1 {ad : Nat → Nat} {A : Nat → Prop} {s : State} {H : Heap} (h : sn_bg ad A s H) : vk_R RX5 58 "minutes" (ad (1000 + 1)) s := h.2.1 (RX5, 58, "minutes", 1) (List.mem_of_getElem? (i := 1) rfl)
theorem sn_sr_2 {ad : Nat → Nat} {A : Nat → Prop} {s : State} {H : Heap} (h : sn_bg ad A s H) : vk_R RX5 64 "dust" (ad (1000 + 2)) s := h.2.1 (RX5, 64, "dust", 2) (List.mem_of_getElem? (i := 2) rfl)
theorem sn_sr_3 {ad : Nat → Nat} {A : Nat → Prop} {s : State} {H : Heap} (h : sn_bg ad A s H) : vk_R RX5 66 "law" (ad (1000 + 3)) s := h.2.1 (RX5, 66, "law", 3) (List.mem_of_getElem? (i := 3) rfl)
theorem sn_sr_4 {ad : Nat → Nat} {A : Nat → Prop} {s : State} {H : Heap} (h : sn_bg ad A s H) : vk_R RX5 68 "money" (ad (1000 + 4)) s := h.2.1 (RX5, 68, "money", 4) (List.mem_of_getElem? (i := 4) rfl)
theorem sn_sr_5 {ad : Nat → Nat} {A : Nat → Prop} {s : State} {H : Heap} (h : sn_bg ad A s H) : vk_R RX5 70 "odds" (ad (1000 + 5)) s := h.2.1 (RX5, 70, "odds", 5) (List.mem_of_getElem? (i := 5) rfl)
theorem sn_sr_6 {ad : Nat → Nat} {A : Nat → Prop} {s : State} {H : Heap} (h : sn_bg ad A s H) : vk_R RX5 75 "nose" (ad (1000 + 6)) s := h.2.1 (RX5, 75, "nose", 6) (List.mem_of_getElem? (i := 6) rfl)
theorem sn_sr_7 {ad : Nat → Nat} {A : Nat → Prop} {s : State} {H : Heap} (h : sn_bg ad A s H) : vk_R RX5 85 "gust" (ad (1000 + 7)) s := h.2.1 (RX5, 85, "gust", 7) (List.mem_of_getElem? (i := 7) rfl)
theorem sn_sr_8 {ad : Nat → Nat} {A : Nat → Prop} {s : State} {H : Heap} (h : sn_bg ad A s H) : vk_R RX5 90 "net" (ad (1000 + 8)) s := h.2.1 (RX5, 90, "net", 8) (List.mem_of_getElem? (i := 8) rfl)
theorem sn_sr_9 {ad : Nat → Nat} {A : Nat → Prop} {s : State} {H : Heap} (h : sn_bg ad A s H) : vk_R RX5 95 "policy" (ad (1000 + 9)) s := h.2.1 (RX5, 95, "policy", 9) (List.mem_of_getElem? (i := 9) rfl)
theorem sn_sr_10 {ad : Nat → Nat} {A : Nat → Prop} {s : State} {H : Heap} (h : sn_bg ad A s H) : vk_R RX5 106 "holds" (ad (1000 + 10)) s := h.2.1 (RX5, 106, "holds", 10) (List.mem_of_getElem? (i := 10) rfl)
theorem sn_sr_11 {ad : Nat → Nat} {A : Nat → Prop} {s : State} {H : Heap} (h : sn_bg ad A s H) : vk_R RX5 111 "at" (ad (1000 + 11)) s := h.2.1 (RX5, 111, "at", 11) (List.mem_of_getElem? (i := 11) rfl)
theorem sn_sr_12 {ad : Nat → Nat} {A : Nat → Prop} {s : State} {H : Heap} (h : sn_bg ad A s H) : vk_R RX5 119 "from" (ad (1000 + 12)) s := h.2.1 (RX5, 119, "from", 12) (List.mem_of_getElem? (i := 12) rfl)
theorem sn_sr_13 {ad : Nat → Nat} {A : Nat → Prop} {s : State} {H : Heap} (h : sn_bg ad A s H) : vk_R RX5 121 "to" (ad (1000 + 13)) s := h.2.1 (RX5, 121, "to", 13) (List.mem_of_getElem? (i := 13) rfl)
theorem sn_sr_14 {ad : Nat → Nat} {A : Nat → Prop} {s : State} {H : Heap} (h : sn_bg ad A s H) : vk_R RX5 123 "sum" (ad (1000 + 14)) s := h.2.1 (RX5, 123, "sum", 14) (List.mem_of_getElem? (i := 14) rfl)
theorem sn_sr_15 {ad : Nat → Nat} {A : Nat → Prop} {s : State} {H : Heap} (h : sn_bg ad A s H) : vk_R RX5 125 "pays" (ad (1000 + 15)) s := h.2.1 (RX5, 125, "pays", 15) (List.mem_of_getElem? (i := 15) rfl)
theorem sn_sr_16 {ad : Nat → Nat} {A : Nat → Prop} {s : State} {H : Heap} (h : sn_bg ad A s H) : vk_R RX9 175 "house" (ad (1000 + 0)) s := h.2.1 (RX9, 175, "house", 0) (List.mem_of_getElem? (i := 16) rfl)
theorem sn_sr_17 {ad : Nat → Nat} {A : Nat → Prop} {s : State} {H : Heap} (h : sn_bg ad A s H) : vk_R RX9 177 "minutes" (ad (1000 + 1)) s := h.2.1 (RX9, 177, "minutes", 1) (List.mem_of_getElem? (i := 17) rfl)
theorem sn_sr_18 {ad : Nat → Nat} {A : Nat → Prop} {s : State} {H : Heap} (h : sn_bg ad A s H) : vk_R RX9 183 "dust" (ad (1000 + 2)) s := h.2.1 (RX9, 183, "dust", 2) (List.mem_of_getElem? (i := 18) rfl)
theorem sn_sr_19 {ad : Nat → Nat} {A : Nat → Prop} {s : State} {H : Heap} (h : sn_bg ad A s H) : vk_R RX9 185 "law" (ad (1000 + 3)) s := h.2.1 (RX9, 185, "law", 3) (List.mem_of_getElem? (i := 19) rfl)
theorem sn_sr_20 {ad : Nat → Nat} {A : Nat → Prop} {s : State} {H : Heap} (h : sn_bg ad A s H) : vk_R RX9 187 "money" (ad (1000 + 4)) s := h.2.1 (RX9, 187, "money", 4) (List.mem_of_getElem? (i := 20) rfl)
theorem sn_sr_21 {ad : Nat → Nat} {A : Nat → Prop} {s : State} {H : Heap} (h : sn_bg ad A s H) : vk_R RX9 189 "odds" (ad (1000 + 5)) s := h.2.1 (RX9, 189, "odds", 5) (List.mem_of_getElem? (i := 21) rfl)
theorem sn_sr_22 {ad : Nat → Nat} {A : Nat → Prop} {s : State} {H : Heap} (h : sn_bg ad A s H) : vk_R RX9 198 "nose" (ad (1000 + 6)) s := h.2.1 (RX9, 198, "nose", 6) (List.mem_of_getElem? (i := 22) rfl)
theorem sn_sr_23 {ad : Nat → Nat} {A : Nat → Prop} {s : State} {H : Heap} (h : sn_bg ad A s H) : vk_R RX9 200 "gust" (ad (1000 + 7)) s := h.2.1 (RX9, 200, "gust", 7) (List.mem_of_getElem? (i := 23) rfl)
theorem sn_sr_24 {ad : Nat → Nat} {A : Nat → Prop} {s : State} {H : Heap} (h : sn_bg ad A s H) : vk_R RX9 202 "net" (ad (1000 + 8)) s := h.2.1 (RX9, 202, "net", 8) (List.mem_of_getElem? (i := 24) rfl)
theorem sn_sr_25 {ad : Nat → Nat} {A : Nat → Prop} {s : State} {H : Heap} (h : sn_bg ad A s H) : vk_R RX9 204 "policy" (ad (1000 + 9)) s := h.2.1 (RX9, 204, "policy", 9) (List.mem_of_getElem? (i := 25) rfl)
theorem sn_sr_26 {ad : Nat → Nat} {A : Nat → Prop} {s : State} {H : Heap} (h : sn_bg ad A s H) : vk_R RX9 206 "holds" (ad (1000 + 10)) s := h.2.1 (RX9, 206, "holds", 10) (List.mem_of_getElem? (i := 26) rfl)
theorem sn_sr_27 {ad : Nat → Nat} {A : Nat → Prop} {s : State} {H : Heap} (h : sn_bg ad A s H) : vk_R RX9 208 "at" (ad (1000 + 11)) s := h.2.1 (RX9, 208, "at", 11) (List.mem_of_getElem? (i := 27) rfl)
theorem sn_sr_28 {ad : Nat → Nat} {A : Nat → Prop} {s : State} {H : Heap} (h : sn_bg ad A s H) : vk_R RX9 191 "from" (ad (1000 + 12)) s := h.2.1 (RX9, 191, "from", 12) (List.mem_of_getElem? (i := 28) rfl)
theorem sn_sr_29 {ad : Nat → Nat} {A : Nat → Prop} {s : State} {H : Heap} (h : sn_bg ad A s H) : vk_R RX9 192 "to" (ad (1000 + 13)) s := h.2.1 (RX9, 192, "to", 13) (List.mem_of_getElem? (i := 29) rfl)
theorem sn_sr_30 {ad : Nat → Nat} {A : Nat → Prop} {s : State} {H : Heap} (h : sn_bg ad A s H) : vk_R RX9 194 "sum" (ad (1000 + 14)) s := h.2.1 (RX9, 194, "sum", 14) (List.mem_of_getElem? (i := 30) rfl)
theorem sn_sr_31 {ad : Nat → Nat} {A : Nat → Prop} {s : State} {H : Heap} (h : sn_bg ad A s H) : vk_R RX9 196 "pays" (ad (1000 + 15)) s := h.2.1 (RX9, 196, "pays", 15) (List.mem_of_getElem? (i := 31) rfl)
theorem ug_all {C : String} {T : u_T} {N : Nat} (h : ∀ k, k < N → u_lay C T k ∈ sn_gw) : ∀ w ∈ u_ws C T N, w ∈ sn_gw := fun w hw => by
  obtain ⟨k, hk, e⟩ := List.mem_map.mp hw
  rw [← e]
  exact h k (List.mem_range.mp hk)
theorem ug_X0 : ∀ w ∈ u_ws RX0 TX0 14, w ∈ sn_gw := ug_all (fun k hk => match k, hk with
  | 0, _ => show Cond.lays RX0 "PepperPolicy$Day" "minutes" "I" ∈ sn_gw from sn_gwI (lb_0 (lt_16 (lt_16 (lt_16 (lt_16 (lt_16 (lt_16 (lt_16 (lt_16 (lt_16 (lt_16 (lt_9 lt_h)))))))))))) gw_lays
  | 1, _ => show Cond.lays RX0 "PepperPolicy$Day" "persons" "I" ∈ sn_gw from sn_gwI (lb_0 (lt_16 (lt_16 (lt_16 (lt_16 (lt_16 (lt_16 (lt_16 (lt_16 (lt_16 (lt_16 (lt_11 lt_h)))))))))))) gw_lays
  | 2, _ => show Cond.lays RX0 "PepperPolicy$Day" "netCount" "I" ∈ sn_gw from sn_gwI (lb_0 (lt_16 (lt_16 (lt_16 (lt_16 (lt_16 (lt_16 (lt_16 (lt_16 (lt_16 (lt_16 (lt_13 lt_h)))))))))))) gw_lays
  | 3, _ => show Cond.lays RX0 "PepperPolicy$Day" "without" "I" ∈ sn_gw from sn_gwI (lb_0 (lt_16 (lt_16 (lt_16 (lt_16 (lt_16 (lt_16 (lt_16 (lt_16 (lt_16 (lt_16 (lt_15 lt_h)))))))))))) gw_lays
  | 4, _ => show Cond.laysFinal RX0 "PepperPolicy$Day" "dusts" "[I" ∈ sn_gw from sn_gwI (lb_0 (lt_16 (lt_16 (lt_16 (lt_16 (lt_16 (lt_16 (lt_16 (lt_16 (lt_16 (lt_16 (lt_16 (lt_1 lt_h))))))))))))) gw_laysFinal
  | 5, _ => show Cond.laysFinal RX0 "PepperPolicy$Day" "keen" "[I" ∈ sn_gw from sn_gwI (lb_0 (lt_16 (lt_16 (lt_16 (lt_16 (lt_16 (lt_16 (lt_16 (lt_16 (lt_16 (lt_16 (lt_16 (lt_3 lt_h))))))))))))) gw_laysFinal
  | 6, _ => show Cond.laysFinal RX0 "PepperPolicy$Day" "limits" "[I" ∈ sn_gw from sn_gwI (lb_0 (lt_16 (lt_16 (lt_16 (lt_16 (lt_16 (lt_16 (lt_16 (lt_16 (lt_16 (lt_16 (lt_16 (lt_5 lt_h))))))))))))) gw_laysFinal
  | 7, _ => show Cond.laysFinal RX0 "PepperPolicy$Day" "held" "[I" ∈ sn_gw from sn_gwI (lb_0 (lt_16 (lt_16 (lt_16 (lt_16 (lt_16 (lt_16 (lt_16 (lt_16 (lt_16 (lt_16 (lt_16 (lt_7 lt_h))))))))))))) gw_laysFinal
  | 8, _ => show Cond.laysFinal RX0 "PepperPolicy$Day" "snuffed" "[I" ∈ sn_gw from sn_gwI (lb_0 (lt_16 (lt_16 (lt_16 (lt_16 (lt_16 (lt_16 (lt_16 (lt_16 (lt_16 (lt_16 (lt_16 (lt_9 lt_h))))))))))))) gw_laysFinal
  | 9, _ => show Cond.laysFinal RX0 "PepperPolicy$Day" "nets" "[I" ∈ sn_gw from sn_gwI (lb_0 (lt_16 (lt_16 (lt_16 (lt_16 (lt_16 (lt_16 (lt_16 (lt_16 (lt_16 (lt_16 (lt_16 (lt_11 lt_h))))))))))))) gw_laysFinal
  | 10, _ => show Cond.laysFinal RX0 "PepperPolicy$Day" "tickles" "[I" ∈ sn_gw from sn_gwI (lb_0 (lt_16 (lt_16 (lt_16 (lt_16 (lt_16 (lt_16 (lt_16 (lt_16 (lt_16 (lt_16 (lt_16 (lt_13 lt_h))))))))))))) gw_laysFinal
  | 11, _ => show Cond.laysFinal RX0 "PepperPolicy$Day" "came" "[I" ∈ sn_gw from sn_gwI (lb_0 (lt_16 (lt_16 (lt_16 (lt_16 (lt_16 (lt_16 (lt_16 (lt_16 (lt_16 (lt_16 (lt_16 (lt_15 lt_h))))))))))))) gw_laysFinal
  | 12, _ => show Cond.laysFinal RX0 "PepperPolicy$Day" "sneezers" "[I" ∈ sn_gw from sn_gwI (lb_0 (lt_16 (lt_16 (lt_16 (lt_16 (lt_16 (lt_16 (lt_16 (lt_16 (lt_16 (lt_16 (lt_16 (lt_16 (lt_1 lt_h)))))))))))))) gw_laysFinal
  | 13, _ => show Cond.laysFinal RX0 "PepperPolicy$Day" "sneezed" "[I" ∈ sn_gw from sn_gwI (lb_0 (lt_16 (lt_16 (lt_16 (lt_16 (lt_16 (lt_16 (lt_16 (lt_16 (lt_16 (lt_16 (lt_16 (lt_16 (lt_3 lt_h)))))))))))))) gw_laysFinal
  | k + 14, h => absurd h (by omega))
theorem ug_X1 : ∀ w ∈ u_ws RX1 TX1 2, w ∈ sn_gw := ug_all (fun k hk => match k, hk with
  | 0, _ => show Cond.laysFinal RX1 "PepperPolicy$Holding" "fresh" "[J" ∈ sn_gw from sn_gwI (lb_0 (lt_16 (lt_16 (lt_16 (lt_16 (lt_16 (lt_16 (lt_16 (lt_16 (lt_16 (lt_16 (lt_16 (lt_16 (lt_16 (lt_16 (lt_5 lt_h)))))))))))))))) gw_laysFinal
  | 1, _ => show Cond.lays RX1 "PepperPolicy$Holding" "best" "J" ∈ sn_gw from sn_gwI (lb_0 (lt_16 (lt_16 (lt_16 (lt_16 (lt_16 (lt_16 (lt_16 (lt_16 (lt_16 (lt_16 (lt_16 (lt_16 (lt_16 (lt_16 (lt_7 lt_h)))))))))))))))) gw_lays
  | k + 2, h => absurd h (by omega))
theorem ug_X2 : ∀ w ∈ u_ws RX2 TX2 6, w ∈ sn_gw := ug_all (fun k hk => match k, hk with
  | 0, _ => show Cond.laysFinal RX2 "PepperPolicy$House" "counts" "[I" ∈ sn_gw from sn_gwI (lb_0 (lt_16 (lt_16 (lt_16 (lt_5 lt_h))))) gw_laysFinal
  | 1, _ => show Cond.laysFinal RX2 "PepperPolicy$House" "noses" "[I" ∈ sn_gw from sn_gwI (lb_0 (lt_16 (lt_16 (lt_16 (lt_7 lt_h))))) gw_laysFinal
  | 2, _ => show Cond.laysFinal RX2 "PepperPolicy$House" "gusts" "[I" ∈ sn_gw from sn_gwI (lb_0 (lt_16 (lt_16 (lt_16 (lt_9 lt_h))))) gw_laysFinal
  | 3, _ => show Cond.laysFinal RX2 "PepperPolicy$House" "nets" "[I" ∈ sn_gw from sn_gwI (lb_0 (lt_16 (lt_16 (lt_16 (lt_11 lt_h))))) gw_laysFinal
  | 4, _ => show Cond.laysFinal RX2 "PepperPolicy$House" "policies" "[I" ∈ sn_gw from sn_gwI (lb_0 (lt_16 (lt_16 (lt_16 (lt_13 lt_h))))) gw_laysFinal
  | 5, _ => show Cond.laysFinal RX2 "PepperPolicy$House" "acts" "[I" ∈ sn_gw from sn_gwI (lb_0 (lt_16 (lt_16 (lt_16 (lt_15 lt_h))))) gw_laysFinal
  | k + 6, h => absurd h (by omega))
theorem ug_X3 : ∀ w ∈ u_ws RX3 TX3 4, w ∈ sn_gw := ug_all (fun k hk => match k, hk with
  | 0, _ => show Cond.laysFinal RX3 "PepperPolicy$Ledger" "due" "[I" ∈ sn_gw from sn_gwI (lb_0 (lt_16 (lt_16 (lt_16 (lt_16 (lt_16 (lt_16 (lt_16 (lt_16 (lt_16 (lt_16 (lt_16 (lt_16 (lt_16 (lt_4 lt_h))))))))))))))) gw_laysFinal
  | 1, _ => show Cond.laysFinal RX3 "PepperPolicy$Ledger" "paidAt" "[I" ∈ sn_gw from sn_gwI (lb_0 (lt_16 (lt_16 (lt_16 (lt_16 (lt_16 (lt_16 (lt_16 (lt_16 (lt_16 (lt_16 (lt_16 (lt_16 (lt_16 (lt_6 lt_h))))))))))))))) gw_laysFinal
  | 2, _ => show Cond.lays RX3 "PepperPolicy$Ledger" "policies" "I" ∈ sn_gw from sn_gwI (lb_0 (lt_16 (lt_16 (lt_16 (lt_16 (lt_16 (lt_16 (lt_16 (lt_16 (lt_16 (lt_16 (lt_16 (lt_16 (lt_16 (lt_8 lt_h))))))))))))))) gw_lays
  | 3, _ => show Cond.lays RX3 "PepperPolicy$Ledger" "atFirst" "I" ∈ sn_gw from sn_gwI (lb_0 (lt_16 (lt_16 (lt_16 (lt_16 (lt_16 (lt_16 (lt_16 (lt_16 (lt_16 (lt_16 (lt_16 (lt_16 (lt_16 (lt_10 lt_h))))))))))))))) gw_lays
  | k + 4, h => absurd h (by omega))
theorem ug_X4 : ∀ w ∈ u_ws RX4 TX4 5, w ∈ sn_gw := ug_all (fun k hk => match k, hk with
  | 0, _ => show Cond.lays RX4 "PepperPolicy$Puffs" "above" "J" ∈ sn_gw from sn_gwI (lb_1 (lt_16 (lt_16 (lt_5 lt_h)))) gw_lays
  | 1, _ => show Cond.lays RX4 "PepperPolicy$Puffs" "below" "J" ∈ sn_gw from sn_gwI (lb_1 (lt_16 (lt_16 (lt_7 lt_h)))) gw_lays
  | 2, _ => show Cond.laysFinal RX4 "PepperPolicy$Puffs" "weights" "[J" ∈ sn_gw from sn_gwI (lb_1 (lt_16 (lt_16 (lt_9 lt_h)))) gw_laysFinal
  | 3, _ => show Cond.laysFinal RX4 "PepperPolicy$Puffs" "trial" "LPepperPolicy$Day;" ∈ sn_gw from sn_gwI (lb_1 (lt_16 (lt_16 (lt_11 lt_h)))) gw_laysFinal
  | 4, _ => show Cond.laysFinal RX4 "PepperPolicy$Puffs" "ledger" "LPepperPolicy$Ledger;" ∈ sn_gw from sn_gwI (lb_1 (lt_16 (lt_16 (lt_13 lt_h)))) gw_laysFinal
  | k + 5, h => absurd h (by omega))
theorem ug_X5 : ∀ w ∈ u_ws RX5 TX5 8, w ∈ sn_gw := ug_all (fun k hk => match k, hk with
  | 0, _ => show Cond.laysFinal RX5 "PepperPolicy$Reader" "bytes" "[I" ∈ sn_gw from sn_gwI (lb_0 (lt_16 (lt_16 (lt_16 (lt_16 (lt_16 (lt_5 lt_h))))))) gw_laysFinal
  | 1, _ => show Cond.lays RX5 "PepperPolicy$Reader" "length" "I" ∈ sn_gw from sn_gwI (lb_0 (lt_16 (lt_16 (lt_16 (lt_16 (lt_16 (lt_7 lt_h))))))) gw_lays
  | 2, _ => show Cond.lays RX5 "PepperPolicy$Reader" "fault" "I" ∈ sn_gw from sn_gwI (lb_0 (lt_16 (lt_16 (lt_16 (lt_16 (lt_16 (lt_9 lt_h))))))) gw_lays
  | 3, _ => show Cond.lays RX5 "PepperPolicy$Reader" "place" "I" ∈ sn_gw from sn_gwI (lb_0 (lt_16 (lt_16 (lt_16 (lt_16 (lt_16 (lt_11 lt_h))))))) gw_lays
  | 4, _ => show Cond.lays RX5 "PepperPolicy$Reader" "at" "I" ∈ sn_gw from sn_gwI (lb_0 (lt_16 (lt_16 (lt_16 (lt_16 (lt_16 (lt_13 lt_h))))))) gw_lays
  | 5, _ => show Cond.lays RX5 "PepperPolicy$Reader" "stop" "I" ∈ sn_gw from sn_gwI (lb_0 (lt_16 (lt_16 (lt_16 (lt_16 (lt_16 (lt_15 lt_h))))))) gw_lays
  | 6, _ => show Cond.lays RX5 "PepperPolicy$Reader" "kind" "I" ∈ sn_gw from sn_gwI (lb_0 (lt_16 (lt_16 (lt_16 (lt_16 (lt_16 (lt_16 (lt_1 lt_h)))))))) gw_lays
  | 7, _ => show Cond.lays RX5 "PepperPolicy$Reader" "told" "LPepperPolicy$House;" ∈ sn_gw from sn_gwI (lb_0 (lt_16 (lt_16 (lt_16 (lt_16 (lt_16 (lt_16 (lt_3 lt_h)))))))) gw_lays
  | k + 8, h => absurd h (by omega))
theorem ug_X6 : ∀ w ∈ u_ws RX6 TX6 3, w ∈ sn_gw := ug_all (fun k hk => match k, hk with
  | 0, _ => show Cond.laysFinal RX6 "PepperPolicy$Slots" "rows" "[[J" ∈ sn_gw from sn_gwI (lb_0 (lt_16 (lt_16 (lt_16 (lt_16 (lt_16 (lt_16 (lt_16 (lt_8 lt_h))))))))) gw_laysFinal
  | 1, _ => show Cond.laysFinal RX6 "PepperPolicy$Slots" "widths" "[I" ∈ sn_gw from sn_gwI (lb_0 (lt_16 (lt_16 (lt_16 (lt_16 (lt_16 (lt_16 (lt_16 (lt_10 lt_h))))))))) gw_laysFinal
  | 2, _ => show Cond.laysFinal RX6 "PepperPolicy$Slots" "lengths" "[I" ∈ sn_gw from sn_gwI (lb_0 (lt_16 (lt_16 (lt_16 (lt_16 (lt_16 (lt_16 (lt_16 (lt_12 lt_h))))))))) gw_laysFinal
  | k + 3, h => absurd h (by omega))
theorem ug_X7 : ∀ w ∈ u_ws RX7 TX7 5, w ∈ sn_gw := ug_all (fun k hk => match k, hk with
  | 0, _ => show Cond.laysFinal RX7 "PepperPolicy$Suspects" "needed" "[I" ∈ sn_gw from sn_gwI (lb_1 (lt_9 lt_h)) gw_laysFinal
  | 1, _ => show Cond.lays RX7 "PepperPolicy$Suspects" "found" "I" ∈ sn_gw from sn_gwI (lb_1 (lt_11 lt_h)) gw_lays
  | 2, _ => show Cond.lays RX7 "PepperPolicy$Suspects" "minutes" "I" ∈ sn_gw from sn_gwI (lb_1 (lt_13 lt_h)) gw_lays
  | 3, _ => show Cond.lays RX7 "PepperPolicy$Suspects" "firstPair" "I" ∈ sn_gw from sn_gwI (lb_1 (lt_15 lt_h)) gw_lays
  | 4, _ => show Cond.laysFinal RX7 "PepperPolicy$Suspects" "tally" "[I" ∈ sn_gw from sn_gwI (lb_1 (lt_16 (lt_1 lt_h))) gw_laysFinal
  | k + 5, h => absurd h (by omega))
theorem ug_X8 : ∀ w ∈ u_ws RX8 TX8 12, w ∈ sn_gw := ug_all (fun k hk => match k, hk with
  | 0, _ => show Cond.laysFinal RX8 "PepperPolicy" "house" "LPepperPolicy$House;" ∈ sn_gw from sn_gwI (lb_1 (lt_16 (lt_16 (lt_16 (lt_12 lt_h))))) gw_laysFinal
  | 1, _ => show Cond.laysFinal RX8 "PepperPolicy" "draft" "LPepperPolicy$House;" ∈ sn_gw from sn_gwI (lb_1 (lt_16 (lt_16 (lt_16 (lt_14 lt_h))))) gw_laysFinal
  | 2, _ => show Cond.laysFinal RX8 "PepperPolicy" "images" "[LPepperPolicy$House;" ∈ sn_gw from sn_gwI (lb_1 (lt_16 (lt_16 (lt_16 (lt_16 lt_h))))) gw_laysFinal
  | 3, _ => show Cond.laysFinal RX8 "PepperPolicy" "kept" "[Z" ∈ sn_gw from sn_gwI (lb_1 (lt_16 (lt_16 (lt_16 (lt_16 (lt_2 lt_h)))))) gw_laysFinal
  | 4, _ => show Cond.laysFinal RX8 "PepperPolicy" "reader" "LPepperPolicy$Reader;" ∈ sn_gw from sn_gwI (lb_1 (lt_16 (lt_16 (lt_16 (lt_16 (lt_4 lt_h)))))) gw_laysFinal
  | 5, _ => show Cond.laysFinal RX8 "PepperPolicy" "slots" "LPepperPolicy$Slots;" ∈ sn_gw from sn_gwI (lb_1 (lt_16 (lt_16 (lt_16 (lt_16 (lt_6 lt_h)))))) gw_laysFinal
  | 6, _ => show Cond.laysFinal RX8 "PepperPolicy" "day" "LPepperPolicy$Day;" ∈ sn_gw from sn_gwI (lb_1 (lt_16 (lt_16 (lt_16 (lt_16 (lt_8 lt_h)))))) gw_laysFinal
  | 7, _ => show Cond.laysFinal RX8 "PepperPolicy" "trial" "LPepperPolicy$Day;" ∈ sn_gw from sn_gwI (lb_1 (lt_16 (lt_16 (lt_16 (lt_16 (lt_10 lt_h)))))) gw_laysFinal
  | 8, _ => show Cond.laysFinal RX8 "PepperPolicy" "ledger" "LPepperPolicy$Ledger;" ∈ sn_gw from sn_gwI (lb_1 (lt_16 (lt_16 (lt_16 (lt_16 (lt_12 lt_h)))))) gw_laysFinal
  | 9, _ => show Cond.laysFinal RX8 "PepperPolicy" "holding" "LPepperPolicy$Holding;" ∈ sn_gw from sn_gwI (lb_1 (lt_16 (lt_16 (lt_16 (lt_16 (lt_14 lt_h)))))) gw_laysFinal
  | 10, _ => show Cond.laysFinal RX8 "PepperPolicy" "suspects" "LPepperPolicy$Suspects;" ∈ sn_gw from sn_gwI (lb_1 (lt_16 (lt_16 (lt_16 (lt_16 (lt_16 lt_h)))))) gw_laysFinal
  | 11, _ => show Cond.laysFinal RX8 "PepperPolicy" "puffs" "LPepperPolicy$Puffs;" ∈ sn_gw from sn_gwI (lb_1 (lt_16 (lt_16 (lt_16 (lt_16 (lt_16 (lt_2 lt_h))))))) gw_laysFinal
  | k + 12, h => absurd h (by omega))
theorem ug_X9 : ∀ w ∈ u_ws RX9 TX9 46, w ∈ sn_gw := ug_all (fun k hk => match k, hk with
  | 0, _ => show Cond.lays RX9 "PepperPolicyModel" "thrown" "I" ∈ sn_gw from sn_gwI (lb_4 (lt_16 (lt_16 (lt_16 (lt_16 (lt_16 (lt_16 (lt_16 (lt_16 (lt_16 (lt_16 (lt_4 lt_h)))))))))))) gw_lays
  | 1, _ => show Cond.laysFinal RX9 "PepperPolicyModel" "world" "[I" ∈ sn_gw from sn_gwI (lb_4 (lt_16 (lt_16 (lt_16 (lt_16 (lt_16 (lt_16 (lt_16 (lt_16 (lt_16 (lt_16 (lt_6 lt_h)))))))))))) gw_laysFinal
  | 2, _ => show Cond.laysFinal RX9 "PepperPolicyModel" "images" "[I" ∈ sn_gw from sn_gwI (lb_4 (lt_16 (lt_16 (lt_16 (lt_16 (lt_16 (lt_16 (lt_16 (lt_16 (lt_16 (lt_16 (lt_8 lt_h)))))))))))) gw_laysFinal
  | 3, _ => show Cond.laysFinal RX9 "PepperPolicyModel" "hasImage" "[Z" ∈ sn_gw from sn_gwI (lb_4 (lt_16 (lt_16 (lt_16 (lt_16 (lt_16 (lt_16 (lt_16 (lt_16 (lt_16 (lt_16 (lt_10 lt_h)))))))))))) gw_laysFinal
  | 4, _ => show Cond.laysFinal RX9 "PepperPolicyModel" "tape" "[B" ∈ sn_gw from sn_gwI (lb_4 (lt_16 (lt_16 (lt_16 (lt_16 (lt_16 (lt_16 (lt_16 (lt_16 (lt_16 (lt_16 (lt_12 lt_h)))))))))))) gw_laysFinal
  | 5, _ => show Cond.lays RX9 "PepperPolicyModel" "taped" "I" ∈ sn_gw from sn_gwI (lb_4 (lt_16 (lt_16 (lt_16 (lt_16 (lt_16 (lt_16 (lt_16 (lt_16 (lt_16 (lt_16 (lt_14 lt_h)))))))))))) gw_lays
  | 6, _ => show Cond.laysFinal RX9 "PepperPolicyModel" "five" "[I" ∈ sn_gw from sn_gwI (lb_4 (lt_16 (lt_16 (lt_16 (lt_16 (lt_16 (lt_16 (lt_16 (lt_16 (lt_16 (lt_16 (lt_16 lt_h)))))))))))) gw_laysFinal
  | 7, _ => show Cond.lays RX9 "PepperPolicyModel" "size" "I" ∈ sn_gw from sn_gwI (lb_4 (lt_16 (lt_16 (lt_16 (lt_16 (lt_16 (lt_16 (lt_16 (lt_16 (lt_16 (lt_16 (lt_16 (lt_2 lt_h))))))))))))) gw_lays
  | 8, _ => show Cond.lays RX9 "PepperPolicyModel" "at" "I" ∈ sn_gw from sn_gwI (lb_4 (lt_16 (lt_16 (lt_16 (lt_16 (lt_16 (lt_16 (lt_16 (lt_16 (lt_16 (lt_16 (lt_16 (lt_4 lt_h))))))))))))) gw_lays
  | 9, _ => show Cond.lays RX9 "PepperPolicyModel" "from" "I" ∈ sn_gw from sn_gwI (lb_4 (lt_16 (lt_16 (lt_16 (lt_16 (lt_16 (lt_16 (lt_16 (lt_16 (lt_16 (lt_16 (lt_16 (lt_6 lt_h))))))))))))) gw_lays
  | 10, _ => show Cond.lays RX9 "PepperPolicyModel" "token" "I" ∈ sn_gw from sn_gwI (lb_4 (lt_16 (lt_16 (lt_16 (lt_16 (lt_16 (lt_16 (lt_16 (lt_16 (lt_16 (lt_16 (lt_16 (lt_8 lt_h))))))))))))) gw_lays
  | 11, _ => show Cond.lays RX9 "PepperPolicyModel" "value" "I" ∈ sn_gw from sn_gwI (lb_4 (lt_16 (lt_16 (lt_16 (lt_16 (lt_16 (lt_16 (lt_16 (lt_16 (lt_16 (lt_16 (lt_16 (lt_10 lt_h))))))))))))) gw_lays
  | 12, _ => show Cond.lays RX9 "PepperPolicyModel" "faultKind" "I" ∈ sn_gw from sn_gwI (lb_4 (lt_16 (lt_16 (lt_16 (lt_16 (lt_16 (lt_16 (lt_16 (lt_16 (lt_16 (lt_16 (lt_16 (lt_12 lt_h))))))))))))) gw_lays
  | 13, _ => show Cond.lays RX9 "PepperPolicyModel" "faultPlace" "I" ∈ sn_gw from sn_gwI (lb_4 (lt_16 (lt_16 (lt_16 (lt_16 (lt_16 (lt_16 (lt_16 (lt_16 (lt_16 (lt_16 (lt_16 (lt_14 lt_h))))))))))))) gw_lays
  | 14, _ => show Cond.laysFinal RX9 "PepperPolicyModel" "fresh" "[I" ∈ sn_gw from sn_gwI (lb_4 (lt_16 (lt_16 (lt_16 (lt_16 (lt_16 (lt_16 (lt_16 (lt_16 (lt_16 (lt_16 (lt_16 (lt_16 lt_h))))))))))))) gw_laysFinal
  | 15, _ => show Cond.laysFinal RX9 "PepperPolicyModel" "dustAt" "[I" ∈ sn_gw from sn_gwI (lb_4 (lt_16 (lt_16 (lt_16 (lt_16 (lt_16 (lt_16 (lt_16 (lt_16 (lt_16 (lt_16 (lt_16 (lt_16 (lt_2 lt_h)))))))))))))) gw_laysFinal
  | 16, _ => show Cond.laysFinal RX9 "PepperPolicyModel" "heldOf" "[I" ∈ sn_gw from sn_gwI (lb_4 (lt_16 (lt_16 (lt_16 (lt_16 (lt_16 (lt_16 (lt_16 (lt_16 (lt_16 (lt_16 (lt_16 (lt_16 (lt_4 lt_h)))))))))))))) gw_laysFinal
  | 17, _ => show Cond.laysFinal RX9 "PepperPolicyModel" "snuffOf" "[I" ∈ sn_gw from sn_gwI (lb_4 (lt_16 (lt_16 (lt_16 (lt_16 (lt_16 (lt_16 (lt_16 (lt_16 (lt_16 (lt_16 (lt_16 (lt_16 (lt_6 lt_h)))))))))))))) gw_laysFinal
  | 18, _ => show Cond.lays RX9 "PepperPolicyModel" "gustSet" "I" ∈ sn_gw from sn_gwI (lb_4 (lt_16 (lt_16 (lt_16 (lt_16 (lt_16 (lt_16 (lt_16 (lt_16 (lt_16 (lt_16 (lt_16 (lt_16 (lt_8 lt_h)))))))))))))) gw_lays
  | 19, _ => show Cond.lays RX9 "PepperPolicyModel" "noNet" "I" ∈ sn_gw from sn_gwI (lb_4 (lt_16 (lt_16 (lt_16 (lt_16 (lt_16 (lt_16 (lt_16 (lt_16 (lt_16 (lt_16 (lt_16 (lt_16 (lt_10 lt_h)))))))))))))) gw_lays
  | 20, _ => show Cond.lays RX9 "PepperPolicyModel" "lawNow" "I" ∈ sn_gw from sn_gwI (lb_4 (lt_16 (lt_16 (lt_16 (lt_16 (lt_16 (lt_16 (lt_16 (lt_16 (lt_16 (lt_16 (lt_16 (lt_16 (lt_12 lt_h)))))))))))))) gw_lays
  | 21, _ => show Cond.lays RX9 "PepperPolicyModel" "moneyNow" "I" ∈ sn_gw from sn_gwI (lb_4 (lt_16 (lt_16 (lt_16 (lt_16 (lt_16 (lt_16 (lt_16 (lt_16 (lt_16 (lt_16 (lt_16 (lt_16 (lt_14 lt_h)))))))))))))) gw_lays
  | 22, _ => show Cond.lays RX9 "PepperPolicyModel" "lastMinute" "I" ∈ sn_gw from sn_gwI (lb_4 (lt_16 (lt_16 (lt_16 (lt_16 (lt_16 (lt_16 (lt_16 (lt_16 (lt_16 (lt_16 (lt_16 (lt_16 (lt_16 lt_h)))))))))))))) gw_lays
  | 23, _ => show Cond.laysFinal RX9 "PepperPolicyModel" "sneezesOf" "[I" ∈ sn_gw from sn_gwI (lb_4 (lt_16 (lt_16 (lt_16 (lt_16 (lt_16 (lt_16 (lt_16 (lt_16 (lt_16 (lt_16 (lt_16 (lt_16 (lt_16 (lt_2 lt_h))))))))))))))) gw_laysFinal
  | 24, _ => show Cond.laysFinal RX9 "PepperPolicyModel" "sneezeAt" "[I" ∈ sn_gw from sn_gwI (lb_4 (lt_16 (lt_16 (lt_16 (lt_16 (lt_16 (lt_16 (lt_16 (lt_16 (lt_16 (lt_16 (lt_16 (lt_16 (lt_16 (lt_4 lt_h))))))))))))))) gw_laysFinal
  | 25, _ => show Cond.laysFinal RX9 "PepperPolicyModel" "tickleAt" "[I" ∈ sn_gw from sn_gwI (lb_4 (lt_16 (lt_16 (lt_16 (lt_16 (lt_16 (lt_16 (lt_16 (lt_16 (lt_16 (lt_16 (lt_16 (lt_16 (lt_16 (lt_6 lt_h))))))))))))))) gw_laysFinal
  | 26, _ => show Cond.laysFinal RX9 "PepperPolicyModel" "moreAt" "[I" ∈ sn_gw from sn_gwI (lb_4 (lt_16 (lt_16 (lt_16 (lt_16 (lt_16 (lt_16 (lt_16 (lt_16 (lt_16 (lt_16 (lt_16 (lt_16 (lt_16 (lt_8 lt_h))))))))))))))) gw_laysFinal
  | 27, _ => show Cond.laysFinal RX9 "PepperPolicyModel" "caughtOf" "[I" ∈ sn_gw from sn_gwI (lb_4 (lt_16 (lt_16 (lt_16 (lt_16 (lt_16 (lt_16 (lt_16 (lt_16 (lt_16 (lt_16 (lt_16 (lt_16 (lt_16 (lt_10 lt_h))))))))))))))) gw_laysFinal
  | 28, _ => show Cond.laysFinal RX9 "PepperPolicyModel" "oftenNow" "[I" ∈ sn_gw from sn_gwI (lb_4 (lt_16 (lt_16 (lt_16 (lt_16 (lt_16 (lt_16 (lt_16 (lt_16 (lt_16 (lt_16 (lt_16 (lt_16 (lt_16 (lt_12 lt_h))))))))))))))) gw_laysFinal
  | 29, _ => show Cond.laysFinal RX9 "PepperPolicyModel" "paidAt" "[I" ∈ sn_gw from sn_gwI (lb_4 (lt_16 (lt_16 (lt_16 (lt_16 (lt_16 (lt_16 (lt_16 (lt_16 (lt_16 (lt_16 (lt_16 (lt_16 (lt_16 (lt_14 lt_h))))))))))))))) gw_laysFinal
  | 30, _ => show Cond.lays RX9 "PepperPolicyModel" "paidFirst" "I" ∈ sn_gw from sn_gwI (lb_4 (lt_16 (lt_16 (lt_16 (lt_16 (lt_16 (lt_16 (lt_16 (lt_16 (lt_16 (lt_16 (lt_16 (lt_16 (lt_16 (lt_16 lt_h))))))))))))))) gw_lays
  | 31, _ => show Cond.lays RX9 "PepperPolicyModel" "gainsMost" "I" ∈ sn_gw from sn_gwI (lb_4 (lt_16 (lt_16 (lt_16 (lt_16 (lt_16 (lt_16 (lt_16 (lt_16 (lt_16 (lt_16 (lt_16 (lt_16 (lt_16 (lt_16 (lt_2 lt_h)))))))))))))))) gw_lays
  | 32, _ => show Cond.laysFinal RX9 "PepperPolicyModel" "heldFew" "[I" ∈ sn_gw from sn_gwI (lb_4 (lt_16 (lt_16 (lt_16 (lt_16 (lt_16 (lt_16 (lt_16 (lt_16 (lt_16 (lt_16 (lt_16 (lt_16 (lt_16 (lt_16 (lt_4 lt_h)))))))))))))))) gw_laysFinal
  | 33, _ => show Cond.laysFinal RX9 "PepperPolicyModel" "heldSet" "[I" ∈ sn_gw from sn_gwI (lb_4 (lt_16 (lt_16 (lt_16 (lt_16 (lt_16 (lt_16 (lt_16 (lt_16 (lt_16 (lt_16 (lt_16 (lt_16 (lt_16 (lt_16 (lt_6 lt_h)))))))))))))))) gw_laysFinal
  | 34, _ => show Cond.laysFinal RX9 "PepperPolicyModel" "pairs" "[I" ∈ sn_gw from sn_gwI (lb_4 (lt_16 (lt_16 (lt_16 (lt_16 (lt_16 (lt_16 (lt_16 (lt_16 (lt_16 (lt_16 (lt_16 (lt_16 (lt_16 (lt_16 (lt_8 lt_h)))))))))))))))) gw_laysFinal
  | 35, _ => show Cond.laysFinal RX9 "PepperPolicyModel" "oftenBy" "[I" ∈ sn_gw from sn_gwI (lb_4 (lt_16 (lt_16 (lt_16 (lt_16 (lt_16 (lt_16 (lt_16 (lt_16 (lt_16 (lt_16 (lt_16 (lt_16 (lt_16 (lt_16 (lt_10 lt_h)))))))))))))))) gw_laysFinal
  | 36, _ => show Cond.lays RX9 "PepperPolicyModel" "pairMany" "I" ∈ sn_gw from sn_gwI (lb_4 (lt_16 (lt_16 (lt_16 (lt_16 (lt_16 (lt_16 (lt_16 (lt_16 (lt_16 (lt_16 (lt_16 (lt_16 (lt_16 (lt_16 (lt_12 lt_h)))))))))))))))) gw_lays
  | 37, _ => show Cond.lays RX9 "PepperPolicyModel" "askWorst" "I" ∈ sn_gw from sn_gwI (lb_4 (lt_16 (lt_16 (lt_16 (lt_16 (lt_16 (lt_16 (lt_16 (lt_16 (lt_16 (lt_16 (lt_16 (lt_16 (lt_16 (lt_16 (lt_14 lt_h)))))))))))))))) gw_lays
  | 38, _ => show Cond.lays RX9 "PepperPolicyModel" "oftenAll" "J" ∈ sn_gw from sn_gwI (lb_5 lt_h) gw_lays
  | 39, _ => show Cond.lays RX9 "PepperPolicyModel" "oftenSneezes" "J" ∈ sn_gw from sn_gwI (lb_5 (lt_2 lt_h)) gw_lays
  | 40, _ => show Cond.lays RX9 "PepperPolicyModel" "oftenClaim" "J" ∈ sn_gw from sn_gwI (lb_5 (lt_4 lt_h)) gw_lays
  | 41, _ => show Cond.lays RX9 "PepperPolicyModel" "oftenRuin" "J" ∈ sn_gw from sn_gwI (lb_5 (lt_6 lt_h)) gw_lays
  | 42, _ => show Cond.laysFinal RX9 "PepperPolicyModel" "many" "[I" ∈ sn_gw from sn_gwI (lb_5 (lt_8 lt_h)) gw_laysFinal
  | 43, _ => show Cond.laysFinal RX9 "PepperPolicyModel" "width" "[I" ∈ sn_gw from sn_gwI (lb_5 (lt_10 lt_h)) gw_laysFinal
  | 44, _ => show Cond.laysFinal RX9 "PepperPolicyModel" "numbers" "[J" ∈ sn_gw from sn_gwI (lb_5 (lt_12 lt_h)) gw_laysFinal
  | 45, _ => show Cond.laysFinal RX9 "PepperPolicyModel" "moving" "[J" ∈ sn_gw from sn_gwI (lb_5 (lt_14 lt_h)) gw_laysFinal
  | k + 46, h => absurd h (by omega))
theorem kf_RJ0_9 : Cond.fieldLink RJ0 9 "java/lang/String" "value" "[B" ∈ sn_gw := sn_gwI (lb_7 (lt_16 (lt_16 (lt_16 (lt_16 (lt_16 (lt_16 (lt_16 (lt_7 lt_h))))))))) gw_fieldLink
theorem kf_RJ0_15 : Cond.fieldLink RJ0 15 "java/lang/String" "coder" "B" ∈ sn_gw := sn_gwI (lb_7 (lt_16 (lt_16 (lt_16 (lt_16 (lt_16 (lt_16 (lt_16 (lt_8 lt_h))))))))) gw_fieldLink
theorem kf_RJ0_38 : Cond.fieldLink RJ0 38 "java/lang/String" "COMPACT_STRINGS" "Z" ∈ sn_gw := sn_gwI (lb_1 (lt_16 (lt_16 (lt_16 (lt_16 (lt_16 (lt_16 (lt_16 (lt_16 (lt_14 lt_h)))))))))) gw_fieldLink
theorem kf_RJ0_1053 : Cond.fieldLink RJ0 1053 "jdk/internal/util/Preconditions" "SIOOBE_FORMATTER" "Ljava/util/function/BiFunction;" ∈ sn_gw := sn_gwI (lb_1 (lt_16 (lt_16 (lt_16 (lt_16 (lt_16 (lt_16 (lt_16 (lt_16 (lt_16 (lt_14 lt_h))))))))))) gw_fieldLink
theorem kc_J0_coder_7d493 : Cond.code yJ0_coder_7d493 cJ0_coder_7d493 1 (some .byte) ∈ sn_gw := sn_gwI (lb_1 (lt_16 (lt_16 (lt_16 (lt_16 (lt_16 (lt_16 (lt_16 (lt_16 (lt_13 lt_h)))))))))) gw_code
theorem km_RJ0_335 : Cond.methodLink RJ0 335 yJ0_coder_7d493 ∈ sn_gw := sn_gwI (lb_1 (lt_16 (lt_16 (lt_16 (lt_16 (lt_16 (lt_16 (lt_16 (lt_16 (lt_10 lt_h)))))))))) gw_methodLink
theorem kin_J0_coder_7d493 : Cond.instanceMethod yJ0_coder_7d493 ∈ sn_gw := sn_gwI (lb_1 (lt_16 (lt_16 (lt_16 (lt_16 (lt_16 (lt_16 (lt_16 (lt_16 (lt_11 lt_h)))))))))) gw_instanceMethod
theorem ks_J0_coder_7d493 : Cond.selects RJ0 yJ0_coder_7d493 yJ0_coder_7d493 ∈ sn_gw := sn_gwI (lb_1 (lt_16 (lt_16 (lt_16 (lt_16 (lt_16 (lt_16 (lt_16 (lt_16 (lt_12 lt_h)))))))))) gw_selects
theorem ki_RJ0 : Cond.initialized RJ0 ∈ sn_gw := sn_gwI (lb_0 (lt_13 lt_h)) gw_initialized
theorem kl_RJ0_335 : sn_LV RJ0 335 yJ0_coder_7d493 cJ0_coder_7d493 1 (some .byte) 0 := ⟨sn_lv5 km_RJ0_335 kin_J0_coder_7d493 ks_J0_coder_7d493 ki_RJ0 kc_J0_coder_7d493, kva_0, kvb_0, kpd_0⟩
theorem kc_J0_isLatin1_aae02 : Cond.code yJ0_isLatin1_aae02 cJ0_isLatin1_aae02 1 (some .boolean) ∈ sn_gw := sn_gwI (lb_1 (lt_16 (lt_16 (lt_16 (lt_16 (lt_16 (lt_16 (lt_16 (lt_16 (lt_16 (lt_7 lt_h))))))))))) gw_code
theorem km_RJ0_492 : Cond.methodLink RJ0 492 yJ0_isLatin1_aae02 ∈ sn_gw := sn_gwI (lb_1 (lt_16 (lt_16 (lt_16 (lt_16 (lt_16 (lt_16 (lt_16 (lt_16 (lt_16 (lt_4 lt_h))))))))))) gw_methodLink
theorem kin_J0_isLatin1_aae02 : Cond.instanceMethod yJ0_isLatin1_aae02 ∈ sn_gw := sn_gwI (lb_1 (lt_16 (lt_16 (lt_16 (lt_16 (lt_16 (lt_16 (lt_16 (lt_16 (lt_16 (lt_5 lt_h))))))))))) gw_instanceMethod
theorem ks_J0_isLatin1_aae02 : Cond.selects RJ0 yJ0_isLatin1_aae02 yJ0_isLatin1_aae02 ∈ sn_gw := sn_gwI (lb_1 (lt_16 (lt_16 (lt_16 (lt_16 (lt_16 (lt_16 (lt_16 (lt_16 (lt_16 (lt_6 lt_h))))))))))) gw_selects
theorem kl_RJ0_492 : sn_LV RJ0 492 yJ0_isLatin1_aae02 cJ0_isLatin1_aae02 1 (some .boolean) 0 := ⟨sn_lv5 km_RJ0_492 kin_J0_isLatin1_aae02 ks_J0_isLatin1_aae02 ki_RJ0 kc_J0_isLatin1_aae02, kva_0, kvb_0, kpd_1⟩
theorem kc_J1_charAt_3b067 : Cond.code yJ1_charAt_3b067 cJ1_charAt_3b067 2 (some .char) ∈ sn_gw := sn_gwI (lb_1 (lt_16 (lt_16 (lt_16 (lt_16 (lt_16 (lt_16 (lt_16 (lt_16 (lt_16 (lt_10 lt_h))))))))))) gw_code
theorem km_RJ0_495 : Cond.methodLink RJ0 495 yJ1_charAt_3b067 ∈ sn_gw := sn_gwI (lb_1 (lt_16 (lt_16 (lt_16 (lt_16 (lt_16 (lt_16 (lt_16 (lt_16 (lt_16 (lt_8 lt_h))))))))))) gw_methodLink
theorem kst_J1_charAt_3b067 : Cond.static yJ1_charAt_3b067 ∈ sn_gw := sn_gwI (lb_1 (lt_16 (lt_16 (lt_16 (lt_16 (lt_16 (lt_16 (lt_16 (lt_16 (lt_16 (lt_9 lt_h))))))))))) gw_static
theorem ki_RJ1 : Cond.initialized RJ1 ∈ sn_gw := sn_gwI (lb_0 (lt_14 lt_h)) gw_initialized
theorem kl_RJ0_495 : sn_LS RJ0 495 yJ1_charAt_3b067 cJ1_charAt_3b067 2 (some .char) 2 := ⟨sn_ls4 km_RJ0_495 kst_J1_charAt_3b067 ki_RJ1 kc_J1_charAt_3b067, kva_1, kvb_1, kpd_2⟩
theorem kc_J0_checkIndex_df160 : Cond.code yJ0_checkIndex_df160 cJ0_checkIndex_df160 2 none ∈ sn_gw := sn_gwI (lb_1 (lt_16 (lt_16 (lt_16 (lt_16 (lt_16 (lt_16 (lt_16 (lt_16 (lt_16 (lt_13 lt_h))))))))))) gw_code
theorem km_RJ1_9 : Cond.methodLink RJ1 9 yJ0_checkIndex_df160 ∈ sn_gw := sn_gwI (lb_1 (lt_16 (lt_16 (lt_16 (lt_16 (lt_16 (lt_16 (lt_16 (lt_16 (lt_16 (lt_11 lt_h))))))))))) gw_methodLink
theorem kst_J0_checkIndex_df160 : Cond.static yJ0_checkIndex_df160 ∈ sn_gw := sn_gwI (lb_1 (lt_16 (lt_16 (lt_16 (lt_16 (lt_16 (lt_16 (lt_16 (lt_16 (lt_16 (lt_12 lt_h))))))))))) gw_static
theorem kl_RJ1_9 : sn_LS RJ1 9 yJ0_checkIndex_df160 cJ0_checkIndex_df160 2 none 2 := ⟨sn_ls4 km_RJ1_9 kst_J0_checkIndex_df160 ki_RJ0 kc_J0_checkIndex_df160, kva_0, kvb_0, kpd_3⟩
theorem kc_J3_checkIndex_8e157 : Cond.code yJ3_checkIndex_8e157 cJ3_checkIndex_8e157 3 (some .int) ∈ sn_gw := sn_gwI (lb_1 (lt_16 (lt_16 (lt_16 (lt_16 (lt_16 (lt_16 (lt_16 (lt_16 (lt_16 (lt_16 (lt_2 lt_h)))))))))))) gw_code
theorem km_RJ0_1059 : Cond.methodLink RJ0 1059 yJ3_checkIndex_8e157 ∈ sn_gw := sn_gwI (lb_1 (lt_16 (lt_16 (lt_16 (lt_16 (lt_16 (lt_16 (lt_16 (lt_16 (lt_16 (lt_16 lt_h))))))))))) gw_methodLink
theorem kst_J3_checkIndex_8e157 : Cond.static yJ3_checkIndex_8e157 ∈ sn_gw := sn_gwI (lb_1 (lt_16 (lt_16 (lt_16 (lt_16 (lt_16 (lt_16 (lt_16 (lt_16 (lt_16 (lt_16 (lt_1 lt_h)))))))))))) gw_static
theorem ki_RJ3 : Cond.initialized RJ3 ∈ sn_gw := sn_gwI (lb_0 (lt_15 lt_h)) gw_initialized
theorem kl_RJ0_1059 : sn_LS RJ0 1059 yJ3_checkIndex_8e157 cJ3_checkIndex_8e157 3 (some .int) 3 := ⟨sn_ls4 km_RJ0_1059 kst_J3_checkIndex_8e157 ki_RJ3 kc_J3_checkIndex_8e157, kva_2, kvb_2, kpd_4⟩
theorem kk_RX9_92 : Cond.constantLong RX9 92 (2) ∈ sn_gw := sn_gwI (lb_5 (lt_16 (lt_5 lt_h))) rfl
theorem kf_RX9_13 : Cond.fieldLink RX9 13 (TX9 2).1 (TX9 2).2.1 (TX9 2).2.2.1 ∈ sn_gw := sn_gwI (lb_4 (lt_16 (lt_16 (lt_16 (lt_16 (lt_16 (lt_16 (lt_16 (lt_8 lt_h))))))))) gw_fieldLink
theorem fd_RX9_13 : sn_Fd RX9 13 9 2 := ⟨RX9, TX9, 46, rfl, ug_X9, by decide, kf_RX9_13⟩
theorem kf_RX9_9 : Cond.fieldLink RX9 9 (TX9 1).1 (TX9 1).2.1 (TX9 1).2.2.1 ∈ sn_gw := sn_gwI (lb_4 (lt_16 (lt_16 (lt_16 (lt_16 (lt_16 (lt_16 (lt_16 (lt_7 lt_h))))))))) gw_fieldLink
theorem fd_RX9_9 : sn_Fd RX9 9 9 1 := ⟨RX9, TX9, 46, rfl, ug_X9, by decide, kf_RX9_9⟩
theorem kf_RX9_16 : Cond.fieldLink RX9 16 (TX9 3).1 (TX9 3).2.1 (TX9 3).2.2.1 ∈ sn_gw := sn_gwI (lb_4 (lt_16 (lt_16 (lt_16 (lt_16 (lt_16 (lt_16 (lt_16 (lt_9 lt_h))))))))) gw_fieldLink
theorem fd_RX9_16 : sn_Fd RX9 16 9 3 := ⟨RX9, TX9, 46, rfl, ug_X9, by decide, kf_RX9_16⟩
theorem kc_X9_in : Cond.code yX9_in cX9_in 6 (some .boolean) ∈ sn_gw := sn_gwI (lb_5 (lt_16 (lt_8 lt_h))) gw_code
theorem km_RX9_94 : Cond.methodLink RX9 94 yX9_in ∈ sn_gw := sn_gwI (lb_5 (lt_16 (lt_6 lt_h))) gw_methodLink
theorem kst_X9_in : Cond.static yX9_in ∈ sn_gw := sn_gwI (lb_5 (lt_16 (lt_7 lt_h))) gw_static
theorem ki_RX9 : Cond.initialized RX9 ∈ sn_gw := sn_gwI (lb_0 (lt_11 lt_h)) gw_initialized
theorem kl_RX9_94 : sn_LS RX9 94 yX9_in cX9_in 6 (some .boolean) 3 := ⟨sn_ls4 km_RX9_94 kst_X9_in ki_RX9 kc_X9_in, kva_3, kvb_3, kpd_5⟩
theorem kk_RX9_98 : Cond.constantLong RX9 98 (3) ∈ sn_gw := sn_gwI (lb_6 (lt_16 (lt_16 (lt_16 (lt_16 (lt_16 (lt_16 (lt_16 (lt_16 (lt_12 lt_h)))))))))) rfl
theorem kf_RX9_100 : Cond.fieldLink RX9 100 (TX9 5).1 (TX9 5).2.1 (TX9 5).2.2.1 ∈ sn_gw := sn_gwI (lb_4 (lt_16 (lt_16 (lt_16 (lt_16 (lt_16 (lt_16 (lt_16 (lt_11 lt_h))))))))) gw_fieldLink
theorem fd_RX9_100 : sn_Fd RX9 100 9 5 := ⟨RX9, TX9, 46, rfl, ug_X9, by decide, kf_RX9_100⟩
theorem kf_RX9_24 : Cond.fieldLink RX9 24 (TX9 6).1 (TX9 6).2.1 (TX9 6).2.2.1 ∈ sn_gw := sn_gwI (lb_4 (lt_16 (lt_16 (lt_16 (lt_16 (lt_16 (lt_16 (lt_16 (lt_12 lt_h))))))))) gw_fieldLink
theorem fd_RX9_24 : sn_Fd RX9 24 9 6 := ⟨RX9, TX9, 46, rfl, ug_X9, by decide, kf_RX9_24⟩
theorem kf_RX9_20 : Cond.fieldLink RX9 20 (TX9 4).1 (TX9 4).2.1 (TX9 4).2.2.1 ∈ sn_gw := sn_gwI (lb_4 (lt_16 (lt_16 (lt_16 (lt_16 (lt_16 (lt_16 (lt_16 (lt_10 lt_h))))))))) gw_fieldLink
theorem fd_RX9_20 : sn_Fd RX9 20 9 4 := ⟨RX9, TX9, 46, rfl, ug_X9, by decide, kf_RX9_20⟩
theorem fp_RX9_100 : sn_Fp RX9 100 9 5 .int := ⟨RX9, TX9, 46, tyX9, rfl, ug_X9, by decide, kf_RX9_100, tyX9_ok, nmX9, rfl, tyX9_ok 5 (by decide)⟩
theorem kf_RX9_103 : Cond.fieldLink RX9 103 (TX9 7).1 (TX9 7).2.1 (TX9 7).2.2.1 ∈ sn_gw := sn_gwI (lb_4 (lt_16 (lt_16 (lt_16 (lt_16 (lt_16 (lt_16 (lt_16 (lt_13 lt_h))))))))) gw_fieldLink
theorem fd_RX9_103 : sn_Fd RX9 103 9 7 := ⟨RX9, TX9, 46, rfl, ug_X9, by decide, kf_RX9_103⟩
theorem kf_RX9_106 : Cond.fieldLink RX9 106 (TX9 8).1 (TX9 8).2.1 (TX9 8).2.2.1 ∈ sn_gw := sn_gwI (lb_4 (lt_16 (lt_16 (lt_16 (lt_16 (lt_16 (lt_16 (lt_16 (lt_14 lt_h))))))))) gw_fieldLink
theorem fd_RX9_106 : sn_Fd RX9 106 9 8 := ⟨RX9, TX9, 46, rfl, ug_X9, by decide, kf_RX9_106⟩
theorem kk_RX9_119 : Cond.constantLong RX9 119 (97) ∈ sn_gw := sn_gwI (lb_5 (lt_16 (lt_16 (lt_16 (lt_5 lt_h))))) rfl
theorem kk_RX9_121 : Cond.constantLong RX9 121 (122) ∈ sn_gw := sn_gwI (lb_5 (lt_16 (lt_16 (lt_16 (lt_6 lt_h))))) rfl
theorem kk_RX9_123 : Cond.constantLong RX9 123 (48) ∈ sn_gw := sn_gwI (lb_5 (lt_16 (lt_16 (lt_16 (lt_7 lt_h))))) rfl
theorem kk_RX9_125 : Cond.constantLong RX9 125 (57) ∈ sn_gw := sn_gwI (lb_5 (lt_16 (lt_16 (lt_16 (lt_8 lt_h))))) rfl
theorem kk_RX9_130 : Cond.constant RX9 130 (99999) ∈ sn_gw := sn_gwI (lb_5 (lt_16 (lt_16 (lt_16 (lt_9 lt_h))))) rfl
theorem kf_RX9_127 : Cond.fieldLink RX9 127 (TX9 11).1 (TX9 11).2.1 (TX9 11).2.2.1 ∈ sn_gw := sn_gwI (lb_4 (lt_16 (lt_16 (lt_16 (lt_16 (lt_16 (lt_16 (lt_16 (lt_16 (lt_1 lt_h)))))))))) gw_fieldLink
theorem fd_RX9_127 : sn_Fd RX9 127 9 11 := ⟨RX9, TX9, 46, rfl, ug_X9, by decide, kf_RX9_127⟩
theorem kf_RX9_116 : Cond.fieldLink RX9 116 (TX9 10).1 (TX9 10).2.1 (TX9 10).2.2.1 ∈ sn_gw := sn_gwI (lb_4 (lt_16 (lt_16 (lt_16 (lt_16 (lt_16 (lt_16 (lt_16 (lt_16 lt_h))))))))) gw_fieldLink
theorem fp_RX9_116 : sn_Fp RX9 116 9 10 .int := ⟨RX9, TX9, 46, tyX9, rfl, ug_X9, by decide, kf_RX9_116, tyX9_ok, nmX9, rfl, tyX9_ok 10 (by decide)⟩
theorem fp_RX9_106 : sn_Fp RX9 106 9 8 .int := ⟨RX9, TX9, 46, tyX9, rfl, ug_X9, by decide, kf_RX9_106, tyX9_ok, nmX9, rfl, tyX9_ok 8 (by decide)⟩
theorem kc_X9_see : Cond.code yX9_see cX9_see 2 (some .int) ∈ sn_gw := sn_gwI (lb_5 (lt_16 (lt_16 (lt_16 (lt_4 lt_h))))) gw_code
theorem km_RX9_109 : Cond.methodLink RX9 109 yX9_see ∈ sn_gw := sn_gwI (lb_5 (lt_16 (lt_16 (lt_16 (lt_1 lt_h))))) gw_methodLink
theorem kin_X9_see : Cond.instanceMethod yX9_see ∈ sn_gw := sn_gwI (lb_5 (lt_16 (lt_16 (lt_16 (lt_3 lt_h))))) gw_instanceMethod
theorem ks_X9_see : Cond.selects RX9 yX9_see yX9_see ∈ sn_gw := sn_gwS (q := (yX9_see, 46)) (List.mem_of_getElem? (i := 42) rfl) gw_selects
theorem kl_RX9_109 : sn_LV RX9 109 yX9_see cX9_see 2 (some .int) 1 := ⟨sn_lv5 km_RX9_109 kin_X9_see ks_X9_see ki_RX9 kc_X9_see, kva_3, kvb_3, kpd_6⟩
theorem km_RX9_131 : Cond.methodLink RX9 131 Lib.Math.min.name ∈ sn_gw := sn_gwI (lb_5 (lt_16 (lt_16 (lt_16 (lt_10 lt_h))))) gw_methodLink
theorem kst_minI : Cond.static Lib.Math.min.name ∈ sn_gw := sn_gwI (lb_1 (lt_16 (lt_16 (lt_16 (lt_16 (lt_16 (lt_16 (lt_16 (lt_7 lt_h))))))))) gw_static
theorem ki_Math : Cond.initialized "java/lang/Math" ∈ sn_gw := sn_gwI (lb_0 (lt_12 lt_h)) gw_initialized
theorem kc_minI : Cond.code Lib.Math.min.name Lib.Math.min.code 2 (some .int) ∈ sn_gw := sn_gwI (lb_1 (lt_16 (lt_16 (lt_16 (lt_16 (lt_16 (lt_16 (lt_16 (lt_8 lt_h))))))))) gw_code
theorem fp_RX9_127 : sn_Fp RX9 127 9 11 .int := ⟨RX9, TX9, 46, tyX9, rfl, ug_X9, by decide, kf_RX9_127, tyX9_ok, nmX9, rfl, tyX9_ok 11 (by decide)⟩
theorem kf_RX9_113 : Cond.fieldLink RX9 113 (TX9 9).1 (TX9 9).2.1 (TX9 9).2.2.1 ∈ sn_gw := sn_gwI (lb_4 (lt_16 (lt_16 (lt_16 (lt_16 (lt_16 (lt_16 (lt_16 (lt_15 lt_h))))))))) gw_fieldLink
theorem fp_RX9_113 : sn_Fp RX9 113 9 9 .int := ⟨RX9, TX9, 46, tyX9, rfl, ug_X9, by decide, kf_RX9_113, tyX9_ok, nmX9, rfl, tyX9_ok 9 (by decide)⟩
theorem kf_RX9_137 : Cond.fieldLink RX9 137 (TX9 12).1 (TX9 12).2.1 (TX9 12).2.2.1 ∈ sn_gw := sn_gwI (lb_4 (lt_16 (lt_16 (lt_16 (lt_16 (lt_16 (lt_16 (lt_16 (lt_16 (lt_2 lt_h)))))))))) gw_fieldLink
theorem fd_RX9_137 : sn_Fd RX9 137 9 12 := ⟨RX9, TX9, 46, rfl, ug_X9, by decide, kf_RX9_137⟩
theorem fd_RX9_113 : sn_Fd RX9 113 9 9 := ⟨RX9, TX9, 46, rfl, ug_X9, by decide, kf_RX9_113⟩
theorem kc_X9_good : Cond.code yX9_good cX9_good 1 (some .boolean) ∈ sn_gw := sn_gwI (lb_5 (lt_16 (lt_16 (lt_16 (lt_14 lt_h))))) gw_code
theorem km_RX9_140 : Cond.methodLink RX9 140 yX9_good ∈ sn_gw := sn_gwI (lb_5 (lt_16 (lt_16 (lt_16 (lt_11 lt_h))))) gw_methodLink
theorem kin_X9_good : Cond.instanceMethod yX9_good ∈ sn_gw := sn_gwI (lb_5 (lt_16 (lt_16 (lt_16 (lt_13 lt_h))))) gw_instanceMethod
theorem ks_X9_good : Cond.selects RX9 yX9_good yX9_good ∈ sn_gw := sn_gwS (q := (yX9_good, 46)) (List.mem_of_getElem? (i := 43) rfl) gw_selects
theorem kl_RX9_140 : sn_LV RX9 140 yX9_good cX9_good 1 (some .boolean) 0 := ⟨sn_lv5 km_RX9_140 kin_X9_good ks_X9_good ki_RX9 kc_X9_good, kva_3, kvb_3, kpd_1⟩
theorem fp_RX9_137 : sn_Fp RX9 137 9 12 .int := ⟨RX9, TX9, 46, tyX9, rfl, ug_X9, by decide, kf_RX9_137, tyX9_ok, nmX9, rfl, tyX9_ok 12 (by decide)⟩
theorem kf_RX9_27 : Cond.fieldLink RX9 27 (TX9 13).1 (TX9 13).2.1 (TX9 13).2.2.1 ∈ sn_gw := sn_gwI (lb_4 (lt_16 (lt_16 (lt_16 (lt_16 (lt_16 (lt_16 (lt_16 (lt_16 (lt_3 lt_h)))))))))) gw_fieldLink
theorem fp_RX9_27 : sn_Fp RX9 27 9 13 .int := ⟨RX9, TX9, 46, tyX9, rfl, ug_X9, by decide, kf_RX9_27, tyX9_ok, nmX9, rfl, tyX9_ok 13 (by decide)⟩
theorem fd_RX9_116 : sn_Fd RX9 116 9 10 := ⟨RX9, TX9, 46, rfl, ug_X9, by decide, kf_RX9_116⟩
theorem kc_J0_length_8abf5 : Cond.code yJ0_length_8abf5 cJ0_length_8abf5 1 (some .int) ∈ sn_gw := sn_gwI (lb_1 (lt_16 (lt_16 (lt_16 (lt_16 (lt_16 (lt_16 (lt_16 (lt_16 (lt_9 lt_h)))))))))) gw_code
theorem km_RX9_144 : Cond.methodLink RX9 144 yJ0_length_8abf5 ∈ sn_gw := sn_gwI (lb_5 (lt_16 (lt_16 (lt_16 (lt_16 (lt_16 (lt_4 lt_h))))))) gw_methodLink
theorem kin_J0_length_8abf5 : Cond.instanceMethod yJ0_length_8abf5 ∈ sn_gw := sn_gwI (lb_1 (lt_16 (lt_16 (lt_16 (lt_16 (lt_16 (lt_16 (lt_16 (lt_16 (lt_7 lt_h)))))))))) gw_instanceMethod
theorem ks_J0_length_8abf5 : Cond.selects RJ0 yJ0_length_8abf5 yJ0_length_8abf5 ∈ sn_gw := sn_gwI (lb_1 (lt_16 (lt_16 (lt_16 (lt_16 (lt_16 (lt_16 (lt_16 (lt_16 (lt_8 lt_h)))))))))) gw_selects
theorem kl_RX9_144 : sn_LV RX9 144 yJ0_length_8abf5 cJ0_length_8abf5 1 (some .int) 0 := ⟨sn_lv5 km_RX9_144 kin_J0_length_8abf5 ks_J0_length_8abf5 ki_RJ0 kc_J0_length_8abf5, kva_0, kvb_0, kpd_7⟩
theorem kc_J0_charAt_5068e : Cond.code yJ0_charAt_5068e cJ0_charAt_5068e 2 (some .char) ∈ sn_gw := sn_gwI (lb_1 (lt_16 (lt_16 (lt_16 (lt_16 (lt_16 (lt_16 (lt_16 (lt_16 (lt_16 (lt_3 lt_h))))))))))) gw_code
theorem km_RX9_150 : Cond.methodLink RX9 150 yJ0_charAt_5068e ∈ sn_gw := sn_gwI (lb_5 (lt_16 (lt_16 (lt_16 (lt_16 (lt_16 (lt_5 lt_h))))))) gw_methodLink
theorem kin_J0_charAt_5068e : Cond.instanceMethod yJ0_charAt_5068e ∈ sn_gw := sn_gwI (lb_1 (lt_16 (lt_16 (lt_16 (lt_16 (lt_16 (lt_16 (lt_16 (lt_16 (lt_16 (lt_1 lt_h))))))))))) gw_instanceMethod
theorem ks_J0_charAt_5068e : Cond.selects RJ0 yJ0_charAt_5068e yJ0_charAt_5068e ∈ sn_gw := sn_gwI (lb_1 (lt_16 (lt_16 (lt_16 (lt_16 (lt_16 (lt_16 (lt_16 (lt_16 (lt_16 (lt_2 lt_h))))))))))) gw_selects
theorem kl_RX9_150 : sn_LV RX9 150 yJ0_charAt_5068e cJ0_charAt_5068e 2 (some .char) 1 := ⟨sn_lv5 km_RX9_150 kin_J0_charAt_5068e ks_J0_charAt_5068e ki_RJ0 kc_J0_charAt_5068e, kva_0, kvb_0, kpd_8⟩
theorem kc_X9_is : Cond.code yX9_is cX9_is 4 (some .boolean) ∈ sn_gw := sn_gwI (lb_5 (lt_16 (lt_16 (lt_16 (lt_16 (lt_16 (lt_3 lt_h))))))) gw_code
theorem km_RX9_154 : Cond.methodLink RX9 154 yX9_is ∈ sn_gw := sn_gwI (lb_5 (lt_16 (lt_16 (lt_16 (lt_16 (lt_16 lt_h)))))) gw_methodLink
theorem kin_X9_is : Cond.instanceMethod yX9_is ∈ sn_gw := sn_gwI (lb_5 (lt_16 (lt_16 (lt_16 (lt_16 (lt_16 (lt_2 lt_h))))))) gw_instanceMethod
theorem ks_X9_is : Cond.selects RX9 yX9_is yX9_is ∈ sn_gw := sn_gwS (q := (yX9_is, 46)) (List.mem_of_getElem? (i := 48) rfl) gw_selects
theorem kl_RX9_154 : sn_LV RX9 154 yX9_is cX9_is 4 (some .boolean) 1 := ⟨sn_lv5 km_RX9_154 kin_X9_is ks_X9_is ki_RX9 kc_X9_is, kva_3, kvb_3, kpd_9⟩
theorem kc_X9_advance : Cond.code yX9_advance cX9_advance 2 none ∈ sn_gw := sn_gwI (lb_5 (lt_16 (lt_16 (lt_16 lt_h)))) gw_code
theorem km_RX9_158 : Cond.methodLink RX9 158 yX9_advance ∈ sn_gw := sn_gwI (lb_5 (lt_16 (lt_16 (lt_13 lt_h)))) gw_methodLink
theorem kin_X9_advance : Cond.instanceMethod yX9_advance ∈ sn_gw := sn_gwI (lb_5 (lt_16 (lt_16 (lt_15 lt_h)))) gw_instanceMethod
theorem ks_X9_advance : Cond.selects RX9 yX9_advance yX9_advance ∈ sn_gw := sn_gwS (q := (yX9_advance, 46)) (List.mem_of_getElem? (i := 41) rfl) gw_selects
theorem kl_RX9_158 : sn_LV RX9 158 yX9_advance cX9_advance 2 none 0 := ⟨sn_lv5 km_RX9_158 kin_X9_advance ks_X9_advance ki_RX9 kc_X9_advance, kva_3, kvb_3, kpd_10⟩
theorem kc_X9_takes : Cond.code yX9_takes cX9_takes 3 (some .boolean) ∈ sn_gw := sn_gwI (lb_5 (lt_16 (lt_16 (lt_16 (lt_16 (lt_15 lt_h)))))) gw_code
theorem km_RX9_161 : Cond.methodLink RX9 161 yX9_takes ∈ sn_gw := sn_gwI (lb_5 (lt_16 (lt_16 (lt_16 (lt_16 (lt_12 lt_h)))))) gw_methodLink
theorem kin_X9_takes : Cond.instanceMethod yX9_takes ∈ sn_gw := sn_gwI (lb_5 (lt_16 (lt_16 (lt_16 (lt_16 (lt_14 lt_h)))))) gw_instanceMethod
theorem ks_X9_takes : Cond.selects RX9 yX9_takes yX9_takes ∈ sn_gw := sn_gwS (q := (yX9_takes, 46)) (List.mem_of_getElem? (i := 47) rfl) gw_selects
theorem kl_RX9_161 : sn_LV RX9 161 yX9_takes cX9_takes 3 (some .boolean) 1 := ⟨sn_lv5 km_RX9_161 kin_X9_takes ks_X9_takes ki_RX9 kc_X9_takes, kva_3, kvb_3, kpd_9⟩
theorem kc_X9_errs : Cond.code yX9_errs cX9_errs 2 none ∈ sn_gw := sn_gwI (lb_5 (lt_16 (lt_16 (lt_16 (lt_16 (lt_16 (lt_9 lt_h))))))) gw_code
theorem km_RX9_164 : Cond.methodLink RX9 164 yX9_errs ∈ sn_gw := sn_gwI (lb_5 (lt_16 (lt_16 (lt_16 (lt_16 (lt_16 (lt_6 lt_h))))))) gw_methodLink
theorem kin_X9_errs : Cond.instanceMethod yX9_errs ∈ sn_gw := sn_gwI (lb_5 (lt_16 (lt_16 (lt_16 (lt_16 (lt_16 (lt_8 lt_h))))))) gw_instanceMethod
theorem ks_X9_errs : Cond.selects RX9 yX9_errs yX9_errs ∈ sn_gw := sn_gwS (q := (yX9_errs, 46)) (List.mem_of_getElem? (i := 49) rfl) gw_selects
theorem kl_RX9_164 : sn_LV RX9 164 yX9_errs cX9_errs 2 none 1 := ⟨sn_lv5 km_RX9_164 kin_X9_errs ks_X9_errs ki_RX9 kc_X9_errs, kva_3, kvb_3, kpd_11⟩
theorem kc_X9_needs : Cond.code yX9_needs cX9_needs 2 none ∈ sn_gw := sn_gwI (lb_5 (lt_16 (lt_16 (lt_16 (lt_16 (lt_11 lt_h)))))) gw_code
theorem km_RX9_168 : Cond.methodLink RX9 168 yX9_needs ∈ sn_gw := sn_gwI (lb_5 (lt_16 (lt_16 (lt_16 (lt_16 (lt_8 lt_h)))))) gw_methodLink
theorem kin_X9_needs : Cond.instanceMethod yX9_needs ∈ sn_gw := sn_gwI (lb_5 (lt_16 (lt_16 (lt_16 (lt_16 (lt_10 lt_h)))))) gw_instanceMethod
theorem ks_X9_needs : Cond.selects RX9 yX9_needs yX9_needs ∈ sn_gw := sn_gwS (q := (yX9_needs, 46)) (List.mem_of_getElem? (i := 46) rfl) gw_selects
theorem kl_RX9_168 : sn_LV RX9 168 yX9_needs cX9_needs 2 none 1 := ⟨sn_lv5 km_RX9_168 kin_X9_needs ks_X9_needs ki_RX9 kc_X9_needs, kva_3, kvb_3, kpd_12⟩
theorem kc_X9_number : Cond.code yX9_number cX9_number 4 (some .int) ∈ sn_gw := sn_gwI (lb_5 (lt_16 (lt_16 (lt_16 (lt_16 (lt_16 (lt_16 (lt_2 lt_h)))))))) gw_code
theorem km_RX9_172 : Cond.methodLink RX9 172 yX9_number ∈ sn_gw := sn_gwI (lb_5 (lt_16 (lt_16 (lt_16 (lt_16 (lt_16 (lt_15 lt_h))))))) gw_methodLink
theorem kin_X9_number : Cond.instanceMethod yX9_number ∈ sn_gw := sn_gwI (lb_5 (lt_16 (lt_16 (lt_16 (lt_16 (lt_16 (lt_16 (lt_1 lt_h)))))))) gw_instanceMethod
theorem ks_X9_number : Cond.selects RX9 yX9_number yX9_number ∈ sn_gw := sn_gwS (q := (yX9_number, 46)) (List.mem_of_getElem? (i := 51) rfl) gw_selects
theorem kl_RX9_172 : sn_LV RX9 172 yX9_number cX9_number 4 (some .int) 2 := ⟨sn_lv5 km_RX9_172 kin_X9_number ks_X9_number ki_RX9 kc_X9_number, kva_3, kvb_3, kpd_13⟩
theorem fd_RX9_27 : sn_Fd RX9 27 9 13 := ⟨RX9, TX9, 46, rfl, ug_X9, by decide, kf_RX9_27⟩
theorem kf_RX9_31 : Cond.fieldLink RX9 31 (TX9 14).1 (TX9 14).2.1 (TX9 14).2.2.1 ∈ sn_gw := sn_gwI (lb_4 (lt_16 (lt_16 (lt_16 (lt_16 (lt_16 (lt_16 (lt_16 (lt_16 (lt_4 lt_h)))))))))) gw_fieldLink
theorem fd_RX9_31 : sn_Fd RX9 31 9 14 := ⟨RX9, TX9, 46, rfl, ug_X9, by decide, kf_RX9_31⟩
theorem kc_X9_told : Cond.code yX9_told cX9_told 4 (some .int) ∈ sn_gw := sn_gwI (lb_5 (lt_16 (lt_16 (lt_16 (lt_16 (lt_16 (lt_14 lt_h))))))) gw_code
theorem km_RX9_179 : Cond.methodLink RX9 179 yX9_told ∈ sn_gw := sn_gwI (lb_5 (lt_16 (lt_16 (lt_16 (lt_16 (lt_16 (lt_11 lt_h))))))) gw_methodLink
theorem kin_X9_told : Cond.instanceMethod yX9_told ∈ sn_gw := sn_gwI (lb_5 (lt_16 (lt_16 (lt_16 (lt_16 (lt_16 (lt_13 lt_h))))))) gw_instanceMethod
theorem ks_X9_told : Cond.selects RX9 yX9_told yX9_told ∈ sn_gw := sn_gwS (q := (yX9_told, 46)) (List.mem_of_getElem? (i := 50) rfl) gw_selects
theorem kl_RX9_179 : sn_LV RX9 179 yX9_told cX9_told 4 (some .int) 3 := ⟨sn_lv5 km_RX9_179 kin_X9_told ks_X9_told ki_RX9 kc_X9_told, kva_3, kvb_3, kpd_14⟩
theorem kc_X9_readPolicy : Cond.code yX9_readPolicy cX9_readPolicy 2 none ∈ sn_gw := sn_gwI (lb_5 (lt_16 (lt_16 (lt_16 (lt_16 (lt_16 (lt_16 (lt_16 (lt_8 lt_h))))))))) gw_code
theorem km_RX9_212 : Cond.methodLink RX9 212 yX9_readPolicy ∈ sn_gw := sn_gwI (lb_5 (lt_16 (lt_16 (lt_16 (lt_16 (lt_16 (lt_16 (lt_16 (lt_5 lt_h))))))))) gw_methodLink
theorem kin_X9_readPolicy : Cond.instanceMethod yX9_readPolicy ∈ sn_gw := sn_gwI (lb_5 (lt_16 (lt_16 (lt_16 (lt_16 (lt_16 (lt_16 (lt_16 (lt_7 lt_h))))))))) gw_instanceMethod
theorem ks_X9_readPolicy : Cond.selects RX9 yX9_readPolicy yX9_readPolicy ∈ sn_gw := sn_gwS (q := (yX9_readPolicy, 46)) (List.mem_of_getElem? (i := 54) rfl) gw_selects
theorem kl_RX9_212 : sn_LV RX9 212 yX9_readPolicy cX9_readPolicy 2 none 0 := ⟨sn_lv5 km_RX9_212 kin_X9_readPolicy ks_X9_readPolicy ki_RX9 kc_X9_readPolicy, kva_3, kvb_3, kpd_10⟩
theorem kc_X9_readNet : Cond.code yX9_readNet cX9_readNet 3 none ∈ sn_gw := sn_gwI (lb_5 (lt_16 (lt_16 (lt_16 (lt_16 (lt_16 (lt_16 (lt_16 (lt_4 lt_h))))))))) gw_code
theorem km_RX9_209 : Cond.methodLink RX9 209 yX9_readNet ∈ sn_gw := sn_gwI (lb_5 (lt_16 (lt_16 (lt_16 (lt_16 (lt_16 (lt_16 (lt_16 (lt_1 lt_h))))))))) gw_methodLink
theorem kin_X9_readNet : Cond.instanceMethod yX9_readNet ∈ sn_gw := sn_gwI (lb_5 (lt_16 (lt_16 (lt_16 (lt_16 (lt_16 (lt_16 (lt_16 (lt_3 lt_h))))))))) gw_instanceMethod
theorem ks_X9_readNet : Cond.selects RX9 yX9_readNet yX9_readNet ∈ sn_gw := sn_gwS (q := (yX9_readNet, 46)) (List.mem_of_getElem? (i := 53) rfl) gw_selects
theorem kl_RX9_209 : sn_LV RX9 209 yX9_readNet cX9_readNet 3 none 0 := ⟨sn_lv5 km_RX9_209 kin_X9_readNet ks_X9_readNet ki_RX9 kc_X9_readNet, kva_3, kvb_3, kpd_10⟩
theorem kc_X9_readNext : Cond.code yX9_readNext cX9_readNext 3 none ∈ sn_gw := sn_gwI (lb_5 (lt_16 (lt_16 (lt_16 (lt_16 (lt_16 (lt_16 (lt_10 lt_h)))))))) gw_code
theorem km_RX9_218 : Cond.methodLink RX9 218 yX9_readNext ∈ sn_gw := sn_gwI (lb_5 (lt_16 (lt_16 (lt_16 (lt_16 (lt_16 (lt_16 (lt_7 lt_h)))))))) gw_methodLink
theorem kin_X9_readNext : Cond.instanceMethod yX9_readNext ∈ sn_gw := sn_gwI (lb_5 (lt_16 (lt_16 (lt_16 (lt_16 (lt_16 (lt_16 (lt_9 lt_h)))))))) gw_instanceMethod
theorem ks_X9_readNext : Cond.selects RX9 yX9_readNext yX9_readNext ∈ sn_gw := sn_gwS (q := (yX9_readNext, 46)) (List.mem_of_getElem? (i := 52) rfl) gw_selects
theorem kl_RX9_218 : sn_LV RX9 218 yX9_readNext cX9_readNext 3 none 0 := ⟨sn_lv5 km_RX9_218 kin_X9_readNext ks_X9_readNext ki_RX9 kc_X9_readNext, kva_3, kvb_3, kpd_10⟩
theorem kc_X9_readFirst : Cond.code yX9_readFirst cX9_readFirst 1 none ∈ sn_gw := sn_gwI (lb_5 (lt_16 (lt_16 (lt_16 (lt_16 (lt_6 lt_h)))))) gw_code
theorem km_RX9_215 : Cond.methodLink RX9 215 yX9_readFirst ∈ sn_gw := sn_gwI (lb_5 (lt_16 (lt_16 (lt_16 (lt_16 (lt_3 lt_h)))))) gw_methodLink
theorem kin_X9_readFirst : Cond.instanceMethod yX9_readFirst ∈ sn_gw := sn_gwI (lb_5 (lt_16 (lt_16 (lt_16 (lt_16 (lt_5 lt_h)))))) gw_instanceMethod
theorem ks_X9_readFirst : Cond.selects RX9 yX9_readFirst yX9_readFirst ∈ sn_gw := sn_gwS (q := (yX9_readFirst, 46)) (List.mem_of_getElem? (i := 45) rfl) gw_selects
theorem kl_RX9_215 : sn_LV RX9 215 yX9_readFirst cX9_readFirst 1 none 0 := ⟨sn_lv5 km_RX9_215 kin_X9_readFirst ks_X9_readFirst ki_RX9 kc_X9_readFirst, kva_3, kvb_3, kpd_10⟩
theorem kc_X9_readLine : Cond.code yX9_readLine cX9_readLine 1 none ∈ sn_gw := sn_gwI (lb_5 (lt_16 (lt_16 (lt_16 (lt_16 (lt_2 lt_h)))))) gw_code
theorem km_RX9_221 : Cond.methodLink RX9 221 yX9_readLine ∈ sn_gw := sn_gwI (lb_5 (lt_16 (lt_16 (lt_16 (lt_15 lt_h))))) gw_methodLink
theorem kin_X9_readLine : Cond.instanceMethod yX9_readLine ∈ sn_gw := sn_gwI (lb_5 (lt_16 (lt_16 (lt_16 (lt_16 (lt_1 lt_h)))))) gw_instanceMethod
theorem ks_X9_readLine : Cond.selects RX9 yX9_readLine yX9_readLine ∈ sn_gw := sn_gwS (q := (yX9_readLine, 46)) (List.mem_of_getElem? (i := 44) rfl) gw_selects
theorem kl_RX9_221 : sn_LV RX9 221 yX9_readLine cX9_readLine 1 none 0 := ⟨sn_lv5 km_RX9_221 kin_X9_readLine ks_X9_readLine ki_RX9 kc_X9_readLine, kva_3, kvb_3, kpd_10⟩
theorem fp_RX9_103 : sn_Fp RX9 103 9 7 .int := ⟨RX9, TX9, 46, tyX9, rfl, ug_X9, by decide, kf_RX9_103, tyX9_ok, nmX9, rfl, tyX9_ok 7 (by decide)⟩
theorem kc_X9_isPerson : Cond.code yX9_isPerson cX9_isPerson 3 (some .boolean) ∈ sn_gw := sn_gwI (lb_5 (lt_16 (lt_16 (lt_16 (lt_16 (lt_16 (lt_16 (lt_16 (lt_16 (lt_4 lt_h)))))))))) gw_code
theorem km_RX9_224 : Cond.methodLink RX9 224 yX9_isPerson ∈ sn_gw := sn_gwI (lb_5 (lt_16 (lt_16 (lt_16 (lt_16 (lt_16 (lt_16 (lt_16 (lt_16 (lt_1 lt_h)))))))))) gw_methodLink
theorem kin_X9_isPerson : Cond.instanceMethod yX9_isPerson ∈ sn_gw := sn_gwI (lb_5 (lt_16 (lt_16 (lt_16 (lt_16 (lt_16 (lt_16 (lt_16 (lt_16 (lt_3 lt_h)))))))))) gw_instanceMethod
theorem ks_X9_isPerson : Cond.selects RX9 yX9_isPerson yX9_isPerson ∈ sn_gw := sn_gwS (q := (yX9_isPerson, 46)) (List.mem_of_getElem? (i := 55) rfl) gw_selects
theorem kl_RX9_224 : sn_LV RX9 224 yX9_isPerson cX9_isPerson 3 (some .boolean) 1 := ⟨sn_lv5 km_RX9_224 kin_X9_isPerson ks_X9_isPerson ki_RX9 kc_X9_isPerson, kva_3, kvb_3, kpd_15⟩
theorem kk_RX9_232 : Cond.constantLong RX9 232 (4) ∈ sn_gw := sn_gwI (lb_5 (lt_16 (lt_16 (lt_16 (lt_16 (lt_16 (lt_16 (lt_16 (lt_16 (lt_13 lt_h)))))))))) rfl
theorem kc_X9_isPolicy : Cond.code yX9_isPolicy cX9_isPolicy 2 (some .boolean) ∈ sn_gw := sn_gwI (lb_5 (lt_16 (lt_16 (lt_16 (lt_16 (lt_16 (lt_16 (lt_16 (lt_16 (lt_12 lt_h)))))))))) gw_code
theorem km_RX9_228 : Cond.methodLink RX9 228 yX9_isPolicy ∈ sn_gw := sn_gwI (lb_5 (lt_16 (lt_16 (lt_16 (lt_16 (lt_16 (lt_16 (lt_16 (lt_16 (lt_9 lt_h)))))))))) gw_methodLink
theorem kin_X9_isPolicy : Cond.instanceMethod yX9_isPolicy ∈ sn_gw := sn_gwI (lb_5 (lt_16 (lt_16 (lt_16 (lt_16 (lt_16 (lt_16 (lt_16 (lt_16 (lt_11 lt_h)))))))))) gw_instanceMethod
theorem ks_X9_isPolicy : Cond.selects RX9 yX9_isPolicy yX9_isPolicy ∈ sn_gw := sn_gwS (q := (yX9_isPolicy, 46)) (List.mem_of_getElem? (i := 56) rfl) gw_selects
theorem kl_RX9_228 : sn_LV RX9 228 yX9_isPolicy cX9_isPolicy 2 (some .boolean) 1 := ⟨sn_lv5 km_RX9_228 kin_X9_isPolicy ks_X9_isPolicy ki_RX9 kc_X9_isPolicy, kva_3, kvb_3, kpd_16⟩
theorem kc_X9_of : Cond.code yX9_of cX9_of 3 (some .int) ∈ sn_gw := sn_gwI (lb_5 (lt_16 (lt_16 (lt_16 (lt_16 (lt_16 (lt_16 (lt_16 (lt_16 (lt_16 (lt_1 lt_h))))))))))) gw_code
theorem km_RX9_234 : Cond.methodLink RX9 234 yX9_of ∈ sn_gw := sn_gwI (lb_5 (lt_16 (lt_16 (lt_16 (lt_16 (lt_16 (lt_16 (lt_16 (lt_16 (lt_14 lt_h)))))))))) gw_methodLink
theorem kin_X9_of : Cond.instanceMethod yX9_of ∈ sn_gw := sn_gwI (lb_5 (lt_16 (lt_16 (lt_16 (lt_16 (lt_16 (lt_16 (lt_16 (lt_16 (lt_16 lt_h)))))))))) gw_instanceMethod
theorem ks_X9_of : Cond.selects RX9 yX9_of yX9_of ∈ sn_gw := sn_gwS (q := (yX9_of, 46)) (List.mem_of_getElem? (i := 57) rfl) gw_selects
theorem kl_RX9_234 : sn_LV RX9 234 yX9_of cX9_of 3 (some .int) 2 := ⟨sn_lv5 km_RX9_234 kin_X9_of ks_X9_of ki_RX9 kc_X9_of, kva_3, kvb_3, kpd_13⟩
theorem kf_RX9_34 : Cond.fieldLink RX9 34 (TX9 15).1 (TX9 15).2.1 (TX9 15).2.2.1 ∈ sn_gw := sn_gwI (lb_4 (lt_16 (lt_16 (lt_16 (lt_16 (lt_16 (lt_16 (lt_16 (lt_16 (lt_5 lt_h)))))))))) gw_fieldLink
theorem fd_RX9_34 : sn_Fd RX9 34 9 15 := ⟨RX9, TX9, 46, rfl, ug_X9, by decide, kf_RX9_34⟩
theorem kf_RX9_237 : Cond.fieldLink RX9 237 (TX9 18).1 (TX9 18).2.1 (TX9 18).2.2.1 ∈ sn_gw := sn_gwI (lb_4 (lt_16 (lt_16 (lt_16 (lt_16 (lt_16 (lt_16 (lt_16 (lt_16 (lt_8 lt_h)))))))))) gw_fieldLink
theorem fd_RX9_237 : sn_Fd RX9 237 9 18 := ⟨RX9, TX9, 46, rfl, ug_X9, by decide, kf_RX9_237⟩
theorem kf_RX9_37 : Cond.fieldLink RX9 37 (TX9 16).1 (TX9 16).2.1 (TX9 16).2.2.1 ∈ sn_gw := sn_gwI (lb_4 (lt_16 (lt_16 (lt_16 (lt_16 (lt_16 (lt_16 (lt_16 (lt_16 (lt_6 lt_h)))))))))) gw_fieldLink
theorem fd_RX9_37 : sn_Fd RX9 37 9 16 := ⟨RX9, TX9, 46, rfl, ug_X9, by decide, kf_RX9_37⟩
theorem kf_RX9_40 : Cond.fieldLink RX9 40 (TX9 17).1 (TX9 17).2.1 (TX9 17).2.2.1 ∈ sn_gw := sn_gwI (lb_4 (lt_16 (lt_16 (lt_16 (lt_16 (lt_16 (lt_16 (lt_16 (lt_16 (lt_7 lt_h)))))))))) gw_fieldLink
theorem fd_RX9_40 : sn_Fd RX9 40 9 17 := ⟨RX9, TX9, 46, rfl, ug_X9, by decide, kf_RX9_40⟩
theorem fp_RX9_237 : sn_Fp RX9 237 9 18 .int := ⟨RX9, TX9, 46, tyX9, rfl, ug_X9, by decide, kf_RX9_237, tyX9_ok, nmX9, rfl, tyX9_ok 18 (by decide)⟩
theorem kf_RX9_240 : Cond.fieldLink RX9 240 (TX9 19).1 (TX9 19).2.1 (TX9 19).2.2.1 ∈ sn_gw := sn_gwI (lb_4 (lt_16 (lt_16 (lt_16 (lt_16 (lt_16 (lt_16 (lt_16 (lt_16 (lt_9 lt_h)))))))))) gw_fieldLink
theorem fp_RX9_240 : sn_Fp RX9 240 9 19 .int := ⟨RX9, TX9, 46, tyX9, rfl, ug_X9, by decide, kf_RX9_240, tyX9_ok, nmX9, rfl, tyX9_ok 19 (by decide)⟩
theorem kf_RX9_243 : Cond.fieldLink RX9 243 (TX9 20).1 (TX9 20).2.1 (TX9 20).2.2.1 ∈ sn_gw := sn_gwI (lb_4 (lt_16 (lt_16 (lt_16 (lt_16 (lt_16 (lt_16 (lt_16 (lt_16 (lt_10 lt_h)))))))))) gw_fieldLink
theorem fp_RX9_243 : sn_Fp RX9 243 9 20 .int := ⟨RX9, TX9, 46, tyX9, rfl, ug_X9, by decide, kf_RX9_243, tyX9_ok, nmX9, rfl, tyX9_ok 20 (by decide)⟩
theorem kf_RX9_246 : Cond.fieldLink RX9 246 (TX9 21).1 (TX9 21).2.1 (TX9 21).2.2.1 ∈ sn_gw := sn_gwI (lb_4 (lt_16 (lt_16 (lt_16 (lt_16 (lt_16 (lt_16 (lt_16 (lt_16 (lt_11 lt_h)))))))))) gw_fieldLink
theorem fp_RX9_246 : sn_Fp RX9 246 9 21 .int := ⟨RX9, TX9, 46, tyX9, rfl, ug_X9, by decide, kf_RX9_246, tyX9_ok, nmX9, rfl, tyX9_ok 21 (by decide)⟩
theorem kc_X9_minutes : Cond.code yX9_minutes cX9_minutes 1 (some .int) ∈ sn_gw := sn_gwI (lb_5 (lt_16 (lt_16 (lt_16 (lt_16 (lt_16 (lt_16 (lt_16 (lt_16 (lt_16 (lt_13 lt_h))))))))))) gw_code
theorem km_RX9_249 : Cond.methodLink RX9 249 yX9_minutes ∈ sn_gw := sn_gwI (lb_5 (lt_16 (lt_16 (lt_16 (lt_16 (lt_16 (lt_16 (lt_16 (lt_16 (lt_16 (lt_10 lt_h))))))))))) gw_methodLink
theorem kin_X9_minutes : Cond.instanceMethod yX9_minutes ∈ sn_gw := sn_gwI (lb_5 (lt_16 (lt_16 (lt_16 (lt_16 (lt_16 (lt_16 (lt_16 (lt_16 (lt_16 (lt_12 lt_h))))))))))) gw_instanceMethod
theorem ks_X9_minutes : Cond.selects RX9 yX9_minutes yX9_minutes ∈ sn_gw := sn_gwS (q := (yX9_minutes, 46)) (List.mem_of_getElem? (i := 59) rfl) gw_selects
theorem kl_RX9_249 : sn_LV RX9 249 yX9_minutes cX9_minutes 1 (some .int) 0 := ⟨sn_lv5 km_RX9_249 kin_X9_minutes ks_X9_minutes ki_RX9 kc_X9_minutes, kva_3, kvb_3, kpd_7⟩
theorem kf_RX9_251 : Cond.fieldLink RX9 251 (TX9 22).1 (TX9 22).2.1 (TX9 22).2.2.1 ∈ sn_gw := sn_gwI (lb_4 (lt_16 (lt_16 (lt_16 (lt_16 (lt_16 (lt_16 (lt_16 (lt_16 (lt_12 lt_h)))))))))) gw_fieldLink
theorem fp_RX9_251 : sn_Fp RX9 251 9 22 .int := ⟨RX9, TX9, 46, tyX9, rfl, ug_X9, by decide, kf_RX9_251, tyX9_ok, nmX9, rfl, tyX9_ok 22 (by decide)⟩
theorem fd_RX9_240 : sn_Fd RX9 240 9 19 := ⟨RX9, TX9, 46, rfl, ug_X9, by decide, kf_RX9_240⟩
theorem kc_X9_bit : Cond.code yX9_bit cX9_bit 2 (some .int) ∈ sn_gw := sn_gwI (lb_5 (lt_16 (lt_16 (lt_16 (lt_16 (lt_16 (lt_16 (lt_16 (lt_16 (lt_16 (lt_16 (lt_4 lt_h)))))))))))) gw_code
theorem km_RX9_254 : Cond.methodLink RX9 254 yX9_bit ∈ sn_gw := sn_gwI (lb_5 (lt_16 (lt_16 (lt_16 (lt_16 (lt_16 (lt_16 (lt_16 (lt_16 (lt_16 (lt_16 (lt_2 lt_h)))))))))))) gw_methodLink
theorem kst_X9_bit : Cond.static yX9_bit ∈ sn_gw := sn_gwI (lb_5 (lt_16 (lt_16 (lt_16 (lt_16 (lt_16 (lt_16 (lt_16 (lt_16 (lt_16 (lt_16 (lt_3 lt_h)))))))))))) gw_static
theorem kl_RX9_254 : sn_LS RX9 254 yX9_bit cX9_bit 2 (some .int) 2 := ⟨sn_ls4 km_RX9_254 kst_X9_bit ki_RX9 kc_X9_bit, kva_3, kvb_3, kpd_13⟩
theorem kf_RX9_46 : Cond.fieldLink RX9 46 (TX9 24).1 (TX9 24).2.1 (TX9 24).2.2.1 ∈ sn_gw := sn_gwI (lb_4 (lt_16 (lt_16 (lt_16 (lt_16 (lt_16 (lt_16 (lt_16 (lt_16 (lt_14 lt_h)))))))))) gw_fieldLink
theorem fd_RX9_46 : sn_Fd RX9 46 9 24 := ⟨RX9, TX9, 46, rfl, ug_X9, by decide, kf_RX9_46⟩
theorem kf_RX9_49 : Cond.fieldLink RX9 49 (TX9 25).1 (TX9 25).2.1 (TX9 25).2.2.1 ∈ sn_gw := sn_gwI (lb_4 (lt_16 (lt_16 (lt_16 (lt_16 (lt_16 (lt_16 (lt_16 (lt_16 (lt_15 lt_h)))))))))) gw_fieldLink
theorem fd_RX9_49 : sn_Fd RX9 49 9 25 := ⟨RX9, TX9, 46, rfl, ug_X9, by decide, kf_RX9_49⟩
theorem kf_RX9_55 : Cond.fieldLink RX9 55 (TX9 27).1 (TX9 27).2.1 (TX9 27).2.2.1 ∈ sn_gw := sn_gwI (lb_4 (lt_16 (lt_16 (lt_16 (lt_16 (lt_16 (lt_16 (lt_16 (lt_16 (lt_16 (lt_1 lt_h))))))))))) gw_fieldLink
theorem fd_RX9_55 : sn_Fd RX9 55 9 27 := ⟨RX9, TX9, 46, rfl, ug_X9, by decide, kf_RX9_55⟩
theorem kf_RX9_52 : Cond.fieldLink RX9 52 (TX9 26).1 (TX9 26).2.1 (TX9 26).2.2.1 ∈ sn_gw := sn_gwI (lb_4 (lt_16 (lt_16 (lt_16 (lt_16 (lt_16 (lt_16 (lt_16 (lt_16 (lt_16 lt_h)))))))))) gw_fieldLink
theorem fd_RX9_52 : sn_Fd RX9 52 9 26 := ⟨RX9, TX9, 46, rfl, ug_X9, by decide, kf_RX9_52⟩
theorem kf_RX9_43 : Cond.fieldLink RX9 43 (TX9 23).1 (TX9 23).2.1 (TX9 23).2.2.1 ∈ sn_gw := sn_gwI (lb_4 (lt_16 (lt_16 (lt_16 (lt_16 (lt_16 (lt_16 (lt_16 (lt_16 (lt_13 lt_h)))))))))) gw_fieldLink
theorem fd_RX9_43 : sn_Fd RX9 43 9 23 := ⟨RX9, TX9, 46, rfl, ug_X9, by decide, kf_RX9_43⟩
theorem kc_X9_netsTo : Cond.code yX9_netsTo cX9_netsTo 7 (some .int) ∈ sn_gw := sn_gwI (lb_5 (lt_16 (lt_16 (lt_16 (lt_16 (lt_16 (lt_16 (lt_16 (lt_16 (lt_16 (lt_16 (lt_1 lt_h)))))))))))) gw_code
theorem km_RX9_257 : Cond.methodLink RX9 257 yX9_netsTo ∈ sn_gw := sn_gwI (lb_5 (lt_16 (lt_16 (lt_16 (lt_16 (lt_16 (lt_16 (lt_16 (lt_16 (lt_16 (lt_14 lt_h))))))))))) gw_methodLink
theorem kin_X9_netsTo : Cond.instanceMethod yX9_netsTo ∈ sn_gw := sn_gwI (lb_5 (lt_16 (lt_16 (lt_16 (lt_16 (lt_16 (lt_16 (lt_16 (lt_16 (lt_16 (lt_16 lt_h))))))))))) gw_instanceMethod
theorem ks_X9_netsTo : Cond.selects RX9 yX9_netsTo yX9_netsTo ∈ sn_gw := sn_gwS (q := (yX9_netsTo, 46)) (List.mem_of_getElem? (i := 60) rfl) gw_selects
theorem kl_RX9_257 : sn_LV RX9 257 yX9_netsTo cX9_netsTo 7 (some .int) 2 := ⟨sn_lv5 km_RX9_257 kin_X9_netsTo ks_X9_netsTo ki_RX9 kc_X9_netsTo, kva_3, kvb_3, kpd_13⟩
theorem fd_RX9_251 : sn_Fd RX9 251 9 22 := ⟨RX9, TX9, 46, rfl, ug_X9, by decide, kf_RX9_251⟩
theorem kc_X9_goMinute : Cond.code yX9_goMinute cX9_goMinute 8 none ∈ sn_gw := sn_gwI (lb_5 (lt_16 (lt_16 (lt_16 (lt_16 (lt_16 (lt_16 (lt_16 (lt_16 (lt_16 (lt_16 (lt_16 (lt_8 lt_h))))))))))))) gw_code
theorem km_RX9_260 : Cond.methodLink RX9 260 yX9_goMinute ∈ sn_gw := sn_gwI (lb_5 (lt_16 (lt_16 (lt_16 (lt_16 (lt_16 (lt_16 (lt_16 (lt_16 (lt_16 (lt_16 (lt_16 (lt_5 lt_h))))))))))))) gw_methodLink
theorem kin_X9_goMinute : Cond.instanceMethod yX9_goMinute ∈ sn_gw := sn_gwI (lb_5 (lt_16 (lt_16 (lt_16 (lt_16 (lt_16 (lt_16 (lt_16 (lt_16 (lt_16 (lt_16 (lt_16 (lt_7 lt_h))))))))))))) gw_instanceMethod
theorem ks_X9_goMinute : Cond.selects RX9 yX9_goMinute yX9_goMinute ∈ sn_gw := sn_gwS (q := (yX9_goMinute, 46)) (List.mem_of_getElem? (i := 64) rfl) gw_selects
theorem kl_RX9_260 : sn_LV RX9 260 yX9_goMinute cX9_goMinute 8 none 1 := ⟨sn_lv5 km_RX9_260 kin_X9_goMinute ks_X9_goMinute ki_RX9 kc_X9_goMinute, kva_3, kvb_3, kpd_11⟩
theorem kc_X9_asItIs : Cond.code yX9_asItIs cX9_asItIs 5 none ∈ sn_gw := sn_gwI (lb_5 (lt_16 (lt_16 (lt_16 (lt_16 (lt_16 (lt_16 (lt_16 (lt_16 (lt_16 (lt_9 lt_h))))))))))) gw_code
theorem km_RX9_263 : Cond.methodLink RX9 263 yX9_asItIs ∈ sn_gw := sn_gwI (lb_5 (lt_16 (lt_16 (lt_16 (lt_16 (lt_16 (lt_16 (lt_16 (lt_16 (lt_16 (lt_6 lt_h))))))))))) gw_methodLink
theorem kin_X9_asItIs : Cond.instanceMethod yX9_asItIs ∈ sn_gw := sn_gwI (lb_5 (lt_16 (lt_16 (lt_16 (lt_16 (lt_16 (lt_16 (lt_16 (lt_16 (lt_16 (lt_8 lt_h))))))))))) gw_instanceMethod
theorem ks_X9_asItIs : Cond.selects RX9 yX9_asItIs yX9_asItIs ∈ sn_gw := sn_gwS (q := (yX9_asItIs, 46)) (List.mem_of_getElem? (i := 58) rfl) gw_selects
theorem kl_RX9_263 : sn_LV RX9 263 yX9_asItIs cX9_asItIs 5 none 0 := ⟨sn_lv5 km_RX9_263 kin_X9_asItIs ks_X9_asItIs ki_RX9 kc_X9_asItIs, kva_3, kvb_3, kpd_10⟩
theorem kc_X9_goAll : Cond.code yX9_goAll cX9_goAll 2 none ∈ sn_gw := sn_gwI (lb_5 (lt_16 (lt_16 (lt_16 (lt_16 (lt_16 (lt_16 (lt_16 (lt_16 (lt_16 (lt_16 (lt_16 (lt_4 lt_h))))))))))))) gw_code
theorem km_RX9_266 : Cond.methodLink RX9 266 yX9_goAll ∈ sn_gw := sn_gwI (lb_5 (lt_16 (lt_16 (lt_16 (lt_16 (lt_16 (lt_16 (lt_16 (lt_16 (lt_16 (lt_16 (lt_16 (lt_1 lt_h))))))))))))) gw_methodLink
theorem kin_X9_goAll : Cond.instanceMethod yX9_goAll ∈ sn_gw := sn_gwI (lb_5 (lt_16 (lt_16 (lt_16 (lt_16 (lt_16 (lt_16 (lt_16 (lt_16 (lt_16 (lt_16 (lt_16 (lt_3 lt_h))))))))))))) gw_instanceMethod
theorem ks_X9_goAll : Cond.selects RX9 yX9_goAll yX9_goAll ∈ sn_gw := sn_gwS (q := (yX9_goAll, 46)) (List.mem_of_getElem? (i := 63) rfl) gw_selects
theorem kl_RX9_266 : sn_LV RX9 266 yX9_goAll cX9_goAll 2 none 0 := ⟨sn_lv5 km_RX9_266 kin_X9_goAll ks_X9_goAll ki_RX9 kc_X9_goAll, kva_3, kvb_3, kpd_10⟩
theorem kc_X9_isHouse : Cond.code yX9_isHouse cX9_isHouse 1 (some .boolean) ∈ sn_gw := sn_gwI (lb_5 (lt_16 (lt_16 (lt_16 (lt_16 (lt_16 (lt_16 (lt_16 (lt_16 (lt_16 (lt_16 (lt_16 (lt_12 lt_h))))))))))))) gw_code
theorem km_RX9_269 : Cond.methodLink RX9 269 yX9_isHouse ∈ sn_gw := sn_gwI (lb_5 (lt_16 (lt_16 (lt_16 (lt_16 (lt_16 (lt_16 (lt_16 (lt_16 (lt_16 (lt_16 (lt_16 (lt_9 lt_h))))))))))))) gw_methodLink
theorem kin_X9_isHouse : Cond.instanceMethod yX9_isHouse ∈ sn_gw := sn_gwI (lb_5 (lt_16 (lt_16 (lt_16 (lt_16 (lt_16 (lt_16 (lt_16 (lt_16 (lt_16 (lt_16 (lt_16 (lt_11 lt_h))))))))))))) gw_instanceMethod
theorem ks_X9_isHouse : Cond.selects RX9 yX9_isHouse yX9_isHouse ∈ sn_gw := sn_gwS (q := (yX9_isHouse, 46)) (List.mem_of_getElem? (i := 65) rfl) gw_selects
theorem kl_RX9_269 : sn_LV RX9 269 yX9_isHouse cX9_isHouse 1 (some .boolean) 0 := ⟨sn_lv5 km_RX9_269 kin_X9_isHouse ks_X9_isHouse ki_RX9 kc_X9_isHouse, kva_3, kvb_3, kpd_1⟩
theorem kc_X9_asksHouse : Cond.code yX9_asksHouse cX9_asksHouse 1 (some .boolean) ∈ sn_gw := sn_gwI (lb_5 (lt_16 (lt_16 (lt_16 (lt_16 (lt_16 (lt_16 (lt_16 (lt_16 (lt_16 (lt_16 (lt_16 lt_h)))))))))))) gw_code
theorem km_RX9_272 : Cond.methodLink RX9 272 yX9_asksHouse ∈ sn_gw := sn_gwI (lb_5 (lt_16 (lt_16 (lt_16 (lt_16 (lt_16 (lt_16 (lt_16 (lt_16 (lt_16 (lt_16 (lt_13 lt_h)))))))))))) gw_methodLink
theorem kin_X9_asksHouse : Cond.instanceMethod yX9_asksHouse ∈ sn_gw := sn_gwI (lb_5 (lt_16 (lt_16 (lt_16 (lt_16 (lt_16 (lt_16 (lt_16 (lt_16 (lt_16 (lt_16 (lt_15 lt_h)))))))))))) gw_instanceMethod
theorem ks_X9_asksHouse : Cond.selects RX9 yX9_asksHouse yX9_asksHouse ∈ sn_gw := sn_gwS (q := (yX9_asksHouse, 46)) (List.mem_of_getElem? (i := 62) rfl) gw_selects
theorem kl_RX9_272 : sn_LV RX9 272 yX9_asksHouse cX9_asksHouse 1 (some .boolean) 0 := ⟨sn_lv5 km_RX9_272 kin_X9_asksHouse ks_X9_asksHouse ki_RX9 kc_X9_asksHouse, kva_3, kvb_3, kpd_1⟩
theorem kc_X9_isMinute : Cond.code yX9_isMinute cX9_isMinute 3 (some .boolean) ∈ sn_gw := sn_gwI (lb_5 (lt_16 (lt_16 (lt_16 (lt_16 (lt_16 (lt_16 (lt_16 (lt_16 (lt_16 (lt_16 (lt_16 (lt_16 lt_h))))))))))))) gw_code
theorem km_RX9_275 : Cond.methodLink RX9 275 yX9_isMinute ∈ sn_gw := sn_gwI (lb_5 (lt_16 (lt_16 (lt_16 (lt_16 (lt_16 (lt_16 (lt_16 (lt_16 (lt_16 (lt_16 (lt_16 (lt_13 lt_h))))))))))))) gw_methodLink
theorem kin_X9_isMinute : Cond.instanceMethod yX9_isMinute ∈ sn_gw := sn_gwI (lb_5 (lt_16 (lt_16 (lt_16 (lt_16 (lt_16 (lt_16 (lt_16 (lt_16 (lt_16 (lt_16 (lt_16 (lt_15 lt_h))))))))))))) gw_instanceMethod
theorem ks_X9_isMinute : Cond.selects RX9 yX9_isMinute yX9_isMinute ∈ sn_gw := sn_gwS (q := (yX9_isMinute, 46)) (List.mem_of_getElem? (i := 66) rfl) gw_selects
theorem kl_RX9_275 : sn_LV RX9 275 yX9_isMinute cX9_isMinute 3 (some .boolean) 1 := ⟨sn_lv5 km_RX9_275 kin_X9_isMinute ks_X9_isMinute ki_RX9 kc_X9_isMinute, kva_3, kvb_3, kpd_15⟩
theorem kc_X9_bits : Cond.code yX9_bits cX9_bits 3 (some .int) ∈ sn_gw := sn_gwI (lb_5 (lt_16 (lt_16 (lt_16 (lt_16 (lt_16 (lt_16 (lt_16 (lt_16 (lt_16 (lt_16 (lt_16 (lt_16 (lt_16 (lt_10 lt_h))))))))))))))) gw_code
theorem km_RX9_278 : Cond.methodLink RX9 278 yX9_bits ∈ sn_gw := sn_gwI (lb_5 (lt_16 (lt_16 (lt_16 (lt_16 (lt_16 (lt_16 (lt_16 (lt_16 (lt_16 (lt_16 (lt_16 (lt_16 (lt_16 (lt_8 lt_h))))))))))))))) gw_methodLink
theorem kst_X9_bits : Cond.static yX9_bits ∈ sn_gw := sn_gwI (lb_5 (lt_16 (lt_16 (lt_16 (lt_16 (lt_16 (lt_16 (lt_16 (lt_16 (lt_16 (lt_16 (lt_16 (lt_16 (lt_16 (lt_9 lt_h))))))))))))))) gw_static
theorem kl_RX9_278 : sn_LS RX9 278 yX9_bits cX9_bits 3 (some .int) 1 := ⟨sn_ls4 km_RX9_278 kst_X9_bits ki_RX9 kc_X9_bits, kva_3, kvb_3, kpd_6⟩
theorem kc_X9_asksMinute : Cond.code yX9_asksMinute cX9_asksMinute 2 (some .boolean) ∈ sn_gw := sn_gwI (lb_5 (lt_16 (lt_16 (lt_16 (lt_16 (lt_16 (lt_16 (lt_16 (lt_16 (lt_16 (lt_16 (lt_12 lt_h)))))))))))) gw_code
theorem km_RX9_281 : Cond.methodLink RX9 281 yX9_asksMinute ∈ sn_gw := sn_gwI (lb_5 (lt_16 (lt_16 (lt_16 (lt_16 (lt_16 (lt_16 (lt_16 (lt_16 (lt_16 (lt_16 (lt_9 lt_h)))))))))))) gw_methodLink
theorem kin_X9_asksMinute : Cond.instanceMethod yX9_asksMinute ∈ sn_gw := sn_gwI (lb_5 (lt_16 (lt_16 (lt_16 (lt_16 (lt_16 (lt_16 (lt_16 (lt_16 (lt_16 (lt_16 (lt_11 lt_h)))))))))))) gw_instanceMethod
theorem ks_X9_asksMinute : Cond.selects RX9 yX9_asksMinute yX9_asksMinute ∈ sn_gw := sn_gwS (q := (yX9_asksMinute, 46)) (List.mem_of_getElem? (i := 61) rfl) gw_selects
theorem kl_RX9_281 : sn_LV RX9 281 yX9_asksMinute cX9_asksMinute 2 (some .boolean) 1 := ⟨sn_lv5 km_RX9_281 kin_X9_asksMinute ks_X9_asksMinute ki_RX9 kc_X9_asksMinute, kva_3, kvb_3, kpd_16⟩
theorem kc_X9_asksPerson : Cond.code yX9_asksPerson cX9_asksPerson 2 (some .boolean) ∈ sn_gw := sn_gwI (lb_5 (lt_16 (lt_16 (lt_16 (lt_16 (lt_16 (lt_16 (lt_16 (lt_16 (lt_16 (lt_16 (lt_16 (lt_16 (lt_8 lt_h)))))))))))))) gw_code
theorem km_RX9_284 : Cond.methodLink RX9 284 yX9_asksPerson ∈ sn_gw := sn_gwI (lb_5 (lt_16 (lt_16 (lt_16 (lt_16 (lt_16 (lt_16 (lt_16 (lt_16 (lt_16 (lt_16 (lt_16 (lt_16 (lt_5 lt_h)))))))))))))) gw_methodLink
theorem kin_X9_asksPerson : Cond.instanceMethod yX9_asksPerson ∈ sn_gw := sn_gwI (lb_5 (lt_16 (lt_16 (lt_16 (lt_16 (lt_16 (lt_16 (lt_16 (lt_16 (lt_16 (lt_16 (lt_16 (lt_16 (lt_7 lt_h)))))))))))))) gw_instanceMethod
theorem ks_X9_asksPerson : Cond.selects RX9 yX9_asksPerson yX9_asksPerson ∈ sn_gw := sn_gwS (q := (yX9_asksPerson, 46)) (List.mem_of_getElem? (i := 67) rfl) gw_selects
theorem kl_RX9_284 : sn_LV RX9 284 yX9_asksPerson cX9_asksPerson 2 (some .boolean) 1 := ⟨sn_lv5 km_RX9_284 kin_X9_asksPerson ks_X9_asksPerson ki_RX9 kc_X9_asksPerson, kva_3, kvb_3, kpd_16⟩
theorem kc_X9_firstOf : Cond.code yX9_firstOf cX9_firstOf 2 (some .int) ∈ sn_gw := sn_gwI (lb_5 (lt_16 (lt_16 (lt_16 (lt_16 (lt_16 (lt_16 (lt_16 (lt_16 (lt_16 (lt_16 (lt_16 (lt_16 (lt_15 lt_h)))))))))))))) gw_code
theorem km_RX9_287 : Cond.methodLink RX9 287 yX9_firstOf ∈ sn_gw := sn_gwI (lb_5 (lt_16 (lt_16 (lt_16 (lt_16 (lt_16 (lt_16 (lt_16 (lt_16 (lt_16 (lt_16 (lt_16 (lt_16 (lt_13 lt_h)))))))))))))) gw_methodLink
theorem kst_X9_firstOf : Cond.static yX9_firstOf ∈ sn_gw := sn_gwI (lb_5 (lt_16 (lt_16 (lt_16 (lt_16 (lt_16 (lt_16 (lt_16 (lt_16 (lt_16 (lt_16 (lt_16 (lt_16 (lt_14 lt_h)))))))))))))) gw_static
theorem kl_RX9_287 : sn_LS RX9 287 yX9_firstOf cX9_firstOf 2 (some .int) 1 := ⟨sn_ls4 km_RX9_287 kst_X9_firstOf ki_RX9 kc_X9_firstOf, kva_3, kvb_3, kpd_6⟩
theorem kc_X9_allSneezes : Cond.code yX9_allSneezes cX9_allSneezes 3 (some .int) ∈ sn_gw := sn_gwI (lb_5 (lt_16 (lt_16 (lt_16 (lt_16 (lt_16 (lt_16 (lt_16 (lt_16 (lt_16 (lt_16 (lt_16 (lt_16 (lt_16 (lt_7 lt_h))))))))))))))) gw_code
theorem km_RX9_290 : Cond.methodLink RX9 290 yX9_allSneezes ∈ sn_gw := sn_gwI (lb_5 (lt_16 (lt_16 (lt_16 (lt_16 (lt_16 (lt_16 (lt_16 (lt_16 (lt_16 (lt_16 (lt_16 (lt_16 (lt_16 (lt_4 lt_h))))))))))))))) gw_methodLink
theorem kin_X9_allSneezes : Cond.instanceMethod yX9_allSneezes ∈ sn_gw := sn_gwI (lb_5 (lt_16 (lt_16 (lt_16 (lt_16 (lt_16 (lt_16 (lt_16 (lt_16 (lt_16 (lt_16 (lt_16 (lt_16 (lt_16 (lt_6 lt_h))))))))))))))) gw_instanceMethod
theorem ks_X9_allSneezes : Cond.selects RX9 yX9_allSneezes yX9_allSneezes ∈ sn_gw := sn_gwS (q := (yX9_allSneezes, 46)) (List.mem_of_getElem? (i := 68) rfl) gw_selects
theorem kl_RX9_290 : sn_LV RX9 290 yX9_allSneezes cX9_allSneezes 3 (some .int) 0 := ⟨sn_lv5 km_RX9_290 kin_X9_allSneezes ks_X9_allSneezes ki_RX9 kc_X9_allSneezes, kva_3, kvb_3, kpd_7⟩
theorem km_RX9_293 : Cond.methodLink RX9 293 Lib.Math.max.name ∈ sn_gw := sn_gwI (lb_5 (lt_16 (lt_16 (lt_16 (lt_16 (lt_16 (lt_16 (lt_16 (lt_16 (lt_16 (lt_16 (lt_16 (lt_16 (lt_16 (lt_16 (lt_7 lt_h)))))))))))))))) gw_methodLink
theorem kst_maxI : Cond.static Lib.Math.max.name ∈ sn_gw := sn_gwI (lb_2 (lt_16 (lt_16 (lt_16 (lt_16 (lt_16 (lt_16 (lt_16 (lt_16 (lt_5 lt_h)))))))))) gw_static
theorem kc_maxI : Cond.code Lib.Math.max.name Lib.Math.max.code 2 (some .int) ∈ sn_gw := sn_gwI (lb_2 (lt_16 (lt_16 (lt_16 (lt_16 (lt_16 (lt_16 (lt_16 (lt_16 (lt_6 lt_h)))))))))) gw_code
theorem kk_RX9_296 : Cond.constant RX9 296 (1000000000) ∈ sn_gw := sn_gwI (lb_6 (lt_16 lt_h)) rfl
theorem kc_X9_firstFrom : Cond.code yX9_firstFrom cX9_firstFrom 3 (some .int) ∈ sn_gw := sn_gwI (lb_6 (lt_16 (lt_3 lt_h))) gw_code
theorem km_RX9_297 : Cond.methodLink RX9 297 yX9_firstFrom ∈ sn_gw := sn_gwI (lb_6 (lt_16 (lt_1 lt_h))) gw_methodLink
theorem kst_X9_firstFrom : Cond.static yX9_firstFrom ∈ sn_gw := sn_gwI (lb_6 (lt_16 (lt_2 lt_h))) gw_static
theorem kl_RX9_297 : sn_LS RX9 297 yX9_firstFrom cX9_firstFrom 3 (some .int) 2 := ⟨sn_ls4 km_RX9_297 kst_X9_firstFrom ki_RX9 kc_X9_firstFrom, kva_3, kvb_3, kpd_13⟩
theorem kf_RX9_58 : Cond.fieldLink RX9 58 (TX9 28).1 (TX9 28).2.1 (TX9 28).2.2.1 ∈ sn_gw := sn_gwI (lb_4 (lt_16 (lt_16 (lt_16 (lt_16 (lt_16 (lt_16 (lt_16 (lt_16 (lt_16 (lt_2 lt_h))))))))))) gw_fieldLink
theorem fd_RX9_58 : sn_Fd RX9 58 9 28 := ⟨RX9, TX9, 46, rfl, ug_X9, by decide, kf_RX9_58⟩
theorem kc_X9_quietBy : Cond.code yX9_quietBy cX9_quietBy 10 (some .int) ∈ sn_gw := sn_gwI (lb_6 (lt_16 (lt_16 (lt_7 lt_h)))) gw_code
theorem km_RX9_300 : Cond.methodLink RX9 300 yX9_quietBy ∈ sn_gw := sn_gwI (lb_6 (lt_16 (lt_16 (lt_4 lt_h)))) gw_methodLink
theorem kin_X9_quietBy : Cond.instanceMethod yX9_quietBy ∈ sn_gw := sn_gwI (lb_6 (lt_16 (lt_16 (lt_6 lt_h)))) gw_instanceMethod
theorem ks_X9_quietBy : Cond.selects RX9 yX9_quietBy yX9_quietBy ∈ sn_gw := sn_gwS (q := (yX9_quietBy, 46)) (List.mem_of_getElem? (i := 69) rfl) gw_selects
theorem kl_RX9_300 : sn_LV RX9 300 yX9_quietBy cX9_quietBy 10 (some .int) 4 := ⟨sn_lv5 km_RX9_300 kin_X9_quietBy ks_X9_quietBy ki_RX9 kc_X9_quietBy, kva_3, kvb_3, kpd_17⟩
theorem fd_RX9_243 : sn_Fd RX9 243 9 20 := ⟨RX9, TX9, 46, rfl, ug_X9, by decide, kf_RX9_243⟩
theorem kf_RX9_61 : Cond.fieldLink RX9 61 (TX9 29).1 (TX9 29).2.1 (TX9 29).2.2.1 ∈ sn_gw := sn_gwI (lb_4 (lt_16 (lt_16 (lt_16 (lt_16 (lt_16 (lt_16 (lt_16 (lt_16 (lt_16 (lt_3 lt_h))))))))))) gw_fieldLink
theorem fd_RX9_61 : sn_Fd RX9 61 9 29 := ⟨RX9, TX9, 46, rfl, ug_X9, by decide, kf_RX9_61⟩
theorem kc_X9_windowOf : Cond.code yX9_windowOf cX9_windowOf 4 (some .int) ∈ sn_gw := sn_gwI (lb_6 (lt_16 (lt_16 (lt_16 (lt_16 (lt_3 lt_h)))))) gw_code
theorem km_RX9_304 : Cond.methodLink RX9 304 yX9_windowOf ∈ sn_gw := sn_gwI (lb_6 (lt_16 (lt_16 (lt_16 (lt_16 lt_h))))) gw_methodLink
theorem kin_X9_windowOf : Cond.instanceMethod yX9_windowOf ∈ sn_gw := sn_gwI (lb_6 (lt_16 (lt_16 (lt_16 (lt_16 (lt_2 lt_h)))))) gw_instanceMethod
theorem ks_X9_windowOf : Cond.selects RX9 yX9_windowOf yX9_windowOf ∈ sn_gw := sn_gwS (q := (yX9_windowOf, 46)) (List.mem_of_getElem? (i := 73) rfl) gw_selects
theorem kl_RX9_304 : sn_LV RX9 304 yX9_windowOf cX9_windowOf 4 (some .int) 1 := ⟨sn_lv5 km_RX9_304 kin_X9_windowOf ks_X9_windowOf ki_RX9 kc_X9_windowOf, kva_3, kvb_3, kpd_6⟩
theorem kc_X9_ahead : Cond.code yX9_ahead cX9_ahead 2 (some .int) ∈ sn_gw := sn_gwI (lb_6 (lt_16 (lt_16 (lt_16 (lt_16 (lt_7 lt_h)))))) gw_code
theorem km_RX9_310 : Cond.methodLink RX9 310 yX9_ahead ∈ sn_gw := sn_gwI (lb_6 (lt_16 (lt_16 (lt_16 (lt_16 (lt_4 lt_h)))))) gw_methodLink
theorem kin_X9_ahead : Cond.instanceMethod yX9_ahead ∈ sn_gw := sn_gwI (lb_6 (lt_16 (lt_16 (lt_16 (lt_16 (lt_6 lt_h)))))) gw_instanceMethod
theorem ks_X9_ahead : Cond.selects RX9 yX9_ahead yX9_ahead ∈ sn_gw := sn_gwS (q := (yX9_ahead, 46)) (List.mem_of_getElem? (i := 74) rfl) gw_selects
theorem kl_RX9_310 : sn_LV RX9 310 yX9_ahead cX9_ahead 2 (some .int) 1 := ⟨sn_lv5 km_RX9_310 kin_X9_ahead ks_X9_ahead ki_RX9 kc_X9_ahead, kva_3, kvb_3, kpd_6⟩
theorem kf_RX9_307 : Cond.fieldLink RX9 307 (TX9 30).1 (TX9 30).2.1 (TX9 30).2.2.1 ∈ sn_gw := sn_gwI (lb_4 (lt_16 (lt_16 (lt_16 (lt_16 (lt_16 (lt_16 (lt_16 (lt_16 (lt_16 (lt_4 lt_h))))))))))) gw_fieldLink
theorem fp_RX9_307 : sn_Fp RX9 307 9 30 .int := ⟨RX9, TX9, 46, tyX9, rfl, ug_X9, by decide, kf_RX9_307, tyX9_ok, nmX9, rfl, tyX9_ok 30 (by decide)⟩
theorem kc_X9_claimOf : Cond.code yX9_claimOf cX9_claimOf 11 (some .int) ∈ sn_gw := sn_gwI (lb_6 (lt_16 (lt_16 (lt_16 (lt_15 lt_h))))) gw_code
theorem km_RX9_313 : Cond.methodLink RX9 313 yX9_claimOf ∈ sn_gw := sn_gwI (lb_6 (lt_16 (lt_16 (lt_16 (lt_12 lt_h))))) gw_methodLink
theorem kin_X9_claimOf : Cond.instanceMethod yX9_claimOf ∈ sn_gw := sn_gwI (lb_6 (lt_16 (lt_16 (lt_16 (lt_14 lt_h))))) gw_instanceMethod
theorem ks_X9_claimOf : Cond.selects RX9 yX9_claimOf yX9_claimOf ∈ sn_gw := sn_gwS (q := (yX9_claimOf, 46)) (List.mem_of_getElem? (i := 72) rfl) gw_selects
theorem kl_RX9_313 : sn_LV RX9 313 yX9_claimOf cX9_claimOf 11 (some .int) 3 := ⟨sn_lv5 km_RX9_313 kin_X9_claimOf ks_X9_claimOf ki_RX9 kc_X9_claimOf, kva_3, kvb_3, kpd_18⟩
theorem fd_RX9_246 : sn_Fd RX9 246 9 21 := ⟨RX9, TX9, 46, rfl, ug_X9, by decide, kf_RX9_246⟩
theorem kc_X9_moneyAt : Cond.code yX9_moneyAt cX9_moneyAt 4 (some .int) ∈ sn_gw := sn_gwI (lb_6 (lt_16 (lt_16 (lt_16 (lt_16 (lt_16 (lt_12 lt_h))))))) gw_code
theorem km_RX9_320 : Cond.methodLink RX9 320 yX9_moneyAt ∈ sn_gw := sn_gwI (lb_6 (lt_16 (lt_16 (lt_16 (lt_16 (lt_16 (lt_9 lt_h))))))) gw_methodLink
theorem kin_X9_moneyAt : Cond.instanceMethod yX9_moneyAt ∈ sn_gw := sn_gwI (lb_6 (lt_16 (lt_16 (lt_16 (lt_16 (lt_16 (lt_11 lt_h))))))) gw_instanceMethod
theorem ks_X9_moneyAt : Cond.selects RX9 yX9_moneyAt yX9_moneyAt ∈ sn_gw := sn_gwS (q := (yX9_moneyAt, 46)) (List.mem_of_getElem? (i := 76) rfl) gw_selects
theorem kl_RX9_320 : sn_LV RX9 320 yX9_moneyAt cX9_moneyAt 4 (some .int) 1 := ⟨sn_lv5 km_RX9_320 kin_X9_moneyAt ks_X9_moneyAt ki_RX9 kc_X9_moneyAt, kva_3, kvb_3, kpd_6⟩
theorem kc_X9_layPaid : Cond.code yX9_layPaid cX9_layPaid 2 none ∈ sn_gw := sn_gwI (lb_6 (lt_16 (lt_16 (lt_16 (lt_16 (lt_16 (lt_8 lt_h))))))) gw_code
theorem km_RX9_317 : Cond.methodLink RX9 317 yX9_layPaid ∈ sn_gw := sn_gwI (lb_6 (lt_16 (lt_16 (lt_16 (lt_16 (lt_16 (lt_5 lt_h))))))) gw_methodLink
theorem kin_X9_layPaid : Cond.instanceMethod yX9_layPaid ∈ sn_gw := sn_gwI (lb_6 (lt_16 (lt_16 (lt_16 (lt_16 (lt_16 (lt_7 lt_h))))))) gw_instanceMethod
theorem ks_X9_layPaid : Cond.selects RX9 yX9_layPaid yX9_layPaid ∈ sn_gw := sn_gwS (q := (yX9_layPaid, 46)) (List.mem_of_getElem? (i := 75) rfl) gw_selects
theorem kl_RX9_317 : sn_LV RX9 317 yX9_layPaid cX9_layPaid 2 none 0 := ⟨sn_lv5 km_RX9_317 kin_X9_layPaid ks_X9_layPaid ki_RX9 kc_X9_layPaid, kva_3, kvb_3, kpd_10⟩
theorem kc_X9_asksPolicy : Cond.code yX9_asksPolicy cX9_asksPolicy 2 (some .boolean) ∈ sn_gw := sn_gwI (lb_6 (lt_16 (lt_16 (lt_16 (lt_7 lt_h))))) gw_code
theorem km_RX9_323 : Cond.methodLink RX9 323 yX9_asksPolicy ∈ sn_gw := sn_gwI (lb_6 (lt_16 (lt_16 (lt_16 (lt_4 lt_h))))) gw_methodLink
theorem kin_X9_asksPolicy : Cond.instanceMethod yX9_asksPolicy ∈ sn_gw := sn_gwI (lb_6 (lt_16 (lt_16 (lt_16 (lt_6 lt_h))))) gw_instanceMethod
theorem ks_X9_asksPolicy : Cond.selects RX9 yX9_asksPolicy yX9_asksPolicy ∈ sn_gw := sn_gwS (q := (yX9_asksPolicy, 46)) (List.mem_of_getElem? (i := 70) rfl) gw_selects
theorem kl_RX9_323 : sn_LV RX9 323 yX9_asksPolicy cX9_asksPolicy 2 (some .boolean) 1 := ⟨sn_lv5 km_RX9_323 kin_X9_asksPolicy ks_X9_asksPolicy ki_RX9 kc_X9_asksPolicy, kva_3, kvb_3, kpd_16⟩
theorem kc_X9_claimOf_ : Cond.code yX9_claimOf_ cX9_claimOf_ 2 (some .int) ∈ sn_gw := sn_gwI (lb_6 (lt_16 (lt_16 (lt_16 (lt_11 lt_h))))) gw_code
theorem km_RX9_326 : Cond.methodLink RX9 326 yX9_claimOf_ ∈ sn_gw := sn_gwI (lb_6 (lt_16 (lt_16 (lt_16 (lt_8 lt_h))))) gw_methodLink
theorem kin_X9_claimOf_ : Cond.instanceMethod yX9_claimOf_ ∈ sn_gw := sn_gwI (lb_6 (lt_16 (lt_16 (lt_16 (lt_10 lt_h))))) gw_instanceMethod
theorem ks_X9_claimOf_ : Cond.selects RX9 yX9_claimOf_ yX9_claimOf_ ∈ sn_gw := sn_gwS (q := (yX9_claimOf_, 46)) (List.mem_of_getElem? (i := 71) rfl) gw_selects
theorem kl_RX9_326 : sn_LV RX9 326 yX9_claimOf_ cX9_claimOf_ 2 (some .int) 1 := ⟨sn_lv5 km_RX9_326 kin_X9_claimOf_ ks_X9_claimOf_ ki_RX9 kc_X9_claimOf_, kva_3, kvb_3, kpd_6⟩
theorem fd_RX9_307 : sn_Fd RX9 307 9 30 := ⟨RX9, TX9, 46, rfl, ug_X9, by decide, kf_RX9_307⟩
theorem kk_RX9_328 : Cond.constant RX9 328 (-100000) ∈ sn_gw := sn_gwI (lb_6 (lt_16 (lt_16 (lt_16 (lt_16 (lt_16 (lt_4 lt_h))))))) rfl
theorem kc_X9_ruinOf : Cond.code yX9_ruinOf cX9_ruinOf 2 (some .int) ∈ sn_gw := sn_gwI (lb_6 (lt_16 (lt_16 (lt_16 (lt_16 (lt_16 (lt_16 (lt_4 lt_h)))))))) gw_code
theorem km_RX9_329 : Cond.methodLink RX9 329 yX9_ruinOf ∈ sn_gw := sn_gwI (lb_6 (lt_16 (lt_16 (lt_16 (lt_16 (lt_16 (lt_16 (lt_1 lt_h)))))))) gw_methodLink
theorem kin_X9_ruinOf : Cond.instanceMethod yX9_ruinOf ∈ sn_gw := sn_gwI (lb_6 (lt_16 (lt_16 (lt_16 (lt_16 (lt_16 (lt_16 (lt_3 lt_h)))))))) gw_instanceMethod
theorem ks_X9_ruinOf : Cond.selects RX9 yX9_ruinOf yX9_ruinOf ∈ sn_gw := sn_gwS (q := (yX9_ruinOf, 46)) (List.mem_of_getElem? (i := 77) rfl) gw_selects
theorem kl_RX9_329 : sn_LV RX9 329 yX9_ruinOf cX9_ruinOf 2 (some .int) 0 := ⟨sn_lv5 km_RX9_329 kin_X9_ruinOf ks_X9_ruinOf ki_RX9 kc_X9_ruinOf, kva_3, kvb_3, kpd_7⟩
theorem kc_X9_coveredOf : Cond.code yX9_coveredOf cX9_coveredOf 4 (some .int) ∈ sn_gw := sn_gwI (lb_6 (lt_16 (lt_16 (lt_16 (lt_16 (lt_16 (lt_16 (lt_12 lt_h)))))))) gw_code
theorem km_RX9_332 : Cond.methodLink RX9 332 yX9_coveredOf ∈ sn_gw := sn_gwI (lb_6 (lt_16 (lt_16 (lt_16 (lt_16 (lt_16 (lt_16 (lt_9 lt_h)))))))) gw_methodLink
theorem kin_X9_coveredOf : Cond.instanceMethod yX9_coveredOf ∈ sn_gw := sn_gwI (lb_6 (lt_16 (lt_16 (lt_16 (lt_16 (lt_16 (lt_16 (lt_11 lt_h)))))))) gw_instanceMethod
theorem ks_X9_coveredOf : Cond.selects RX9 yX9_coveredOf yX9_coveredOf ∈ sn_gw := sn_gwS (q := (yX9_coveredOf, 46)) (List.mem_of_getElem? (i := 78) rfl) gw_selects
theorem kl_RX9_332 : sn_LV RX9 332 yX9_coveredOf cX9_coveredOf 4 (some .int) 1 := ⟨sn_lv5 km_RX9_332 kin_X9_coveredOf ks_X9_coveredOf ki_RX9 kc_X9_coveredOf, kva_3, kvb_3, kpd_6⟩
theorem kc_X9_isLaw : Cond.code yX9_isLaw cX9_isLaw 1 (some .boolean) ∈ sn_gw := sn_gwI (lb_6 (lt_16 (lt_16 (lt_16 (lt_16 (lt_16 (lt_16 (lt_16 (lt_16 (lt_11 lt_h)))))))))) gw_code
theorem km_RX9_335 : Cond.methodLink RX9 335 yX9_isLaw ∈ sn_gw := sn_gwI (lb_6 (lt_16 (lt_16 (lt_16 (lt_16 (lt_16 (lt_16 (lt_16 (lt_16 (lt_9 lt_h)))))))))) gw_methodLink
theorem kst_X9_isLaw : Cond.static yX9_isLaw ∈ sn_gw := sn_gwI (lb_6 (lt_16 (lt_16 (lt_16 (lt_16 (lt_16 (lt_16 (lt_16 (lt_16 (lt_10 lt_h)))))))))) gw_static
theorem kl_RX9_335 : sn_LS RX9 335 yX9_isLaw cX9_isLaw 1 (some .boolean) 1 := ⟨sn_ls4 km_RX9_335 kst_X9_isLaw ki_RX9 kc_X9_isLaw, kva_3, kvb_3, kpd_16⟩
theorem kc_X9_byLaw : Cond.code yX9_byLaw cX9_byLaw 2 (some .int) ∈ sn_gw := sn_gwI (lb_6 (lt_16 (lt_16 (lt_16 (lt_16 (lt_16 (lt_16 (lt_16 (lt_16 (lt_16 lt_h)))))))))) gw_code
theorem km_RX9_338 : Cond.methodLink RX9 338 yX9_byLaw ∈ sn_gw := sn_gwI (lb_6 (lt_16 (lt_16 (lt_16 (lt_16 (lt_16 (lt_16 (lt_16 (lt_16 (lt_13 lt_h)))))))))) gw_methodLink
theorem kin_X9_byLaw : Cond.instanceMethod yX9_byLaw ∈ sn_gw := sn_gwI (lb_6 (lt_16 (lt_16 (lt_16 (lt_16 (lt_16 (lt_16 (lt_16 (lt_16 (lt_15 lt_h)))))))))) gw_instanceMethod
theorem ks_X9_byLaw : Cond.selects RX9 yX9_byLaw yX9_byLaw ∈ sn_gw := sn_gwS (q := (yX9_byLaw, 46)) (List.mem_of_getElem? (i := 79) rfl) gw_selects
theorem kl_RX9_338 : sn_LV RX9 338 yX9_byLaw cX9_byLaw 2 (some .int) 1 := ⟨sn_lv5 km_RX9_338 kin_X9_byLaw ks_X9_byLaw ki_RX9 kc_X9_byLaw, kva_3, kvb_3, kpd_6⟩
theorem kf_RX9_341 : Cond.fieldLink RX9 341 (TX9 31).1 (TX9 31).2.1 (TX9 31).2.2.1 ∈ sn_gw := sn_gwI (lb_4 (lt_16 (lt_16 (lt_16 (lt_16 (lt_16 (lt_16 (lt_16 (lt_16 (lt_16 (lt_5 lt_h))))))))))) gw_fieldLink
theorem fd_RX9_341 : sn_Fd RX9 341 9 31 := ⟨RX9, TX9, 46, rfl, ug_X9, by decide, kf_RX9_341⟩
theorem fp_RX9_341 : sn_Fp RX9 341 9 31 .int := ⟨RX9, TX9, 46, tyX9, rfl, ug_X9, by decide, kf_RX9_341, tyX9_ok, nmX9, rfl, tyX9_ok 31 (by decide)⟩
theorem kc_X9_takesBy : Cond.code yX9_takesBy cX9_takesBy 7 (some .int) ∈ sn_gw := sn_gwI (lb_6 (lt_16 (lt_16 (lt_16 (lt_16 (lt_16 (lt_16 (lt_16 (lt_16 (lt_16 (lt_12 lt_h))))))))))) gw_code
theorem km_RX9_344 : Cond.methodLink RX9 344 yX9_takesBy ∈ sn_gw := sn_gwI (lb_6 (lt_16 (lt_16 (lt_16 (lt_16 (lt_16 (lt_16 (lt_16 (lt_16 (lt_16 (lt_9 lt_h))))))))))) gw_methodLink
theorem kin_X9_takesBy : Cond.instanceMethod yX9_takesBy ∈ sn_gw := sn_gwI (lb_6 (lt_16 (lt_16 (lt_16 (lt_16 (lt_16 (lt_16 (lt_16 (lt_16 (lt_16 (lt_11 lt_h))))))))))) gw_instanceMethod
theorem ks_X9_takesBy : Cond.selects RX9 yX9_takesBy yX9_takesBy ∈ sn_gw := sn_gwS (q := (yX9_takesBy, 46)) (List.mem_of_getElem? (i := 80) rfl) gw_selects
theorem kl_RX9_344 : sn_LV RX9 344 yX9_takesBy cX9_takesBy 7 (some .int) 3 := ⟨sn_lv5 km_RX9_344 kin_X9_takesBy ks_X9_takesBy ki_RX9 kc_X9_takesBy, kva_3, kvb_3, kpd_19⟩
theorem kc_X9_isTaken : Cond.code yX9_isTaken cX9_isTaken 4 (some .boolean) ∈ sn_gw := sn_gwI (lb_6 (lt_16 (lt_16 (lt_16 (lt_16 (lt_16 (lt_16 (lt_16 (lt_16 (lt_16 (lt_16 (lt_8 lt_h)))))))))))) gw_code
theorem km_RX9_348 : Cond.methodLink RX9 348 yX9_isTaken ∈ sn_gw := sn_gwI (lb_6 (lt_16 (lt_16 (lt_16 (lt_16 (lt_16 (lt_16 (lt_16 (lt_16 (lt_16 (lt_16 (lt_5 lt_h)))))))))))) gw_methodLink
theorem kin_X9_isTaken : Cond.instanceMethod yX9_isTaken ∈ sn_gw := sn_gwI (lb_6 (lt_16 (lt_16 (lt_16 (lt_16 (lt_16 (lt_16 (lt_16 (lt_16 (lt_16 (lt_16 (lt_7 lt_h)))))))))))) gw_instanceMethod
theorem ks_X9_isTaken : Cond.selects RX9 yX9_isTaken yX9_isTaken ∈ sn_gw := sn_gwS (q := (yX9_isTaken, 46)) (List.mem_of_getElem? (i := 81) rfl) gw_selects
theorem kl_RX9_348 : sn_LV RX9 348 yX9_isTaken cX9_isTaken 4 (some .boolean) 2 := ⟨sn_lv5 km_RX9_348 kin_X9_isTaken ks_X9_isTaken ki_RX9 kc_X9_isTaken, kva_3, kvb_3, kpd_20⟩
theorem kf_RX9_64 : Cond.fieldLink RX9 64 (TX9 32).1 (TX9 32).2.1 (TX9 32).2.2.1 ∈ sn_gw := sn_gwI (lb_4 (lt_16 (lt_16 (lt_16 (lt_16 (lt_16 (lt_16 (lt_16 (lt_16 (lt_16 (lt_6 lt_h))))))))))) gw_fieldLink
theorem fd_RX9_64 : sn_Fd RX9 64 9 32 := ⟨RX9, TX9, 46, rfl, ug_X9, by decide, kf_RX9_64⟩
theorem kf_RX9_67 : Cond.fieldLink RX9 67 (TX9 33).1 (TX9 33).2.1 (TX9 33).2.2.1 ∈ sn_gw := sn_gwI (lb_4 (lt_16 (lt_16 (lt_16 (lt_16 (lt_16 (lt_16 (lt_16 (lt_16 (lt_16 (lt_7 lt_h))))))))))) gw_fieldLink
theorem fd_RX9_67 : sn_Fd RX9 67 9 33 := ⟨RX9, TX9, 46, rfl, ug_X9, by decide, kf_RX9_67⟩
theorem kc_X9_tickleSince : Cond.code yX9_tickleSince cX9_tickleSince 6 (some .int) ∈ sn_gw := sn_gwI (lb_6 (lt_16 (lt_16 (lt_16 (lt_16 (lt_16 (lt_16 (lt_16 (lt_16 (lt_16 (lt_16 (lt_16 (lt_8 lt_h))))))))))))) gw_code
theorem km_RX9_352 : Cond.methodLink RX9 352 yX9_tickleSince ∈ sn_gw := sn_gwI (lb_6 (lt_16 (lt_16 (lt_16 (lt_16 (lt_16 (lt_16 (lt_16 (lt_16 (lt_16 (lt_16 (lt_16 (lt_5 lt_h))))))))))))) gw_methodLink
theorem kin_X9_tickleSince : Cond.instanceMethod yX9_tickleSince ∈ sn_gw := sn_gwI (lb_6 (lt_16 (lt_16 (lt_16 (lt_16 (lt_16 (lt_16 (lt_16 (lt_16 (lt_16 (lt_16 (lt_16 (lt_7 lt_h))))))))))))) gw_instanceMethod
theorem ks_X9_tickleSince : Cond.selects RX9 yX9_tickleSince yX9_tickleSince ∈ sn_gw := sn_gwS (q := (yX9_tickleSince, 46)) (List.mem_of_getElem? (i := 84) rfl) gw_selects
theorem kl_RX9_352 : sn_LV RX9 352 yX9_tickleSince cX9_tickleSince 6 (some .int) 3 := ⟨sn_lv5 km_RX9_352 kin_X9_tickleSince ks_X9_tickleSince ki_RX9 kc_X9_tickleSince, kva_3, kvb_3, kpd_19⟩
theorem kc_X9_layHold : Cond.code yX9_layHold cX9_layHold 9 none ∈ sn_gw := sn_gwI (lb_6 (lt_16 (lt_16 (lt_16 (lt_16 (lt_16 (lt_16 (lt_16 (lt_16 (lt_16 (lt_16 (lt_16 (lt_4 lt_h))))))))))))) gw_code
theorem km_RX9_355 : Cond.methodLink RX9 355 yX9_layHold ∈ sn_gw := sn_gwI (lb_6 (lt_16 (lt_16 (lt_16 (lt_16 (lt_16 (lt_16 (lt_16 (lt_16 (lt_16 (lt_16 (lt_16 (lt_1 lt_h))))))))))))) gw_methodLink
theorem kin_X9_layHold : Cond.instanceMethod yX9_layHold ∈ sn_gw := sn_gwI (lb_6 (lt_16 (lt_16 (lt_16 (lt_16 (lt_16 (lt_16 (lt_16 (lt_16 (lt_16 (lt_16 (lt_16 (lt_3 lt_h))))))))))))) gw_instanceMethod
theorem ks_X9_layHold : Cond.selects RX9 yX9_layHold yX9_layHold ∈ sn_gw := sn_gwS (q := (yX9_layHold, 46)) (List.mem_of_getElem? (i := 83) rfl) gw_selects
theorem kl_RX9_355 : sn_LV RX9 355 yX9_layHold cX9_layHold 9 none 4 := ⟨sn_lv5 km_RX9_355 kin_X9_layHold ks_X9_layHold ki_RX9 kc_X9_layHold, kva_3, kvb_3, kpd_21⟩
theorem kc_X9_layHolds : Cond.code yX9_layHolds cX9_layHolds 4 (some .boolean) ∈ sn_gw := sn_gwI (lb_6 (lt_16 (lt_16 (lt_16 (lt_16 (lt_16 (lt_16 (lt_16 (lt_16 (lt_16 (lt_16 (lt_16 lt_h)))))))))))) gw_code
theorem km_RX9_359 : Cond.methodLink RX9 359 yX9_layHolds ∈ sn_gw := sn_gwI (lb_6 (lt_16 (lt_16 (lt_16 (lt_16 (lt_16 (lt_16 (lt_16 (lt_16 (lt_16 (lt_16 (lt_13 lt_h)))))))))))) gw_methodLink
theorem kin_X9_layHolds : Cond.instanceMethod yX9_layHolds ∈ sn_gw := sn_gwI (lb_6 (lt_16 (lt_16 (lt_16 (lt_16 (lt_16 (lt_16 (lt_16 (lt_16 (lt_16 (lt_16 (lt_15 lt_h)))))))))))) gw_instanceMethod
theorem ks_X9_layHolds : Cond.selects RX9 yX9_layHolds yX9_layHolds ∈ sn_gw := sn_gwS (q := (yX9_layHolds, 46)) (List.mem_of_getElem? (i := 82) rfl) gw_selects
theorem kl_RX9_359 : sn_LV RX9 359 yX9_layHolds cX9_layHolds 4 (some .boolean) 1 := ⟨sn_lv5 km_RX9_359 kin_X9_layHolds ks_X9_layHolds ki_RX9 kc_X9_layHolds, kva_3, kvb_3, kpd_16⟩
theorem kc_X9_fraudsOf : Cond.code yX9_fraudsOf cX9_fraudsOf 7 (some .int) ∈ sn_gw := sn_gwI (lb_6 (lt_16 (lt_16 (lt_16 (lt_16 (lt_16 (lt_16 (lt_16 (lt_16 (lt_16 (lt_16 (lt_16 (lt_16 (lt_4 lt_h)))))))))))))) gw_code
theorem km_RX9_362 : Cond.methodLink RX9 362 yX9_fraudsOf ∈ sn_gw := sn_gwI (lb_6 (lt_16 (lt_16 (lt_16 (lt_16 (lt_16 (lt_16 (lt_16 (lt_16 (lt_16 (lt_16 (lt_16 (lt_16 (lt_1 lt_h)))))))))))))) gw_methodLink
theorem kin_X9_fraudsOf : Cond.instanceMethod yX9_fraudsOf ∈ sn_gw := sn_gwI (lb_6 (lt_16 (lt_16 (lt_16 (lt_16 (lt_16 (lt_16 (lt_16 (lt_16 (lt_16 (lt_16 (lt_16 (lt_16 (lt_3 lt_h)))))))))))))) gw_instanceMethod
theorem ks_X9_fraudsOf : Cond.selects RX9 yX9_fraudsOf yX9_fraudsOf ∈ sn_gw := sn_gwS (q := (yX9_fraudsOf, 46)) (List.mem_of_getElem? (i := 85) rfl) gw_selects
theorem kl_RX9_362 : sn_LV RX9 362 yX9_fraudsOf cX9_fraudsOf 7 (some .int) 1 := ⟨sn_lv5 km_RX9_362 kin_X9_fraudsOf ks_X9_fraudsOf ki_RX9 kc_X9_fraudsOf, kva_3, kvb_3, kpd_6⟩
theorem kf_RX9_82 : Cond.fieldLink RX9 82 (TX9 44).1 (TX9 44).2.1 (TX9 44).2.2.1 ∈ sn_gw := sn_gwI (lb_4 (lt_16 (lt_16 (lt_16 (lt_16 (lt_16 (lt_16 (lt_16 (lt_16 (lt_16 (lt_16 (lt_2 lt_h)))))))))))) gw_fieldLink
theorem fd_RX9_82 : sn_Fd RX9 82 9 44 := ⟨RX9, TX9, 46, rfl, ug_X9, by decide, kf_RX9_82⟩
theorem kf_RX9_76 : Cond.fieldLink RX9 76 (TX9 42).1 (TX9 42).2.1 (TX9 42).2.2.1 ∈ sn_gw := sn_gwI (lb_4 (lt_16 (lt_16 (lt_16 (lt_16 (lt_16 (lt_16 (lt_16 (lt_16 (lt_16 (lt_16 lt_h))))))))))) gw_fieldLink
theorem fd_RX9_76 : sn_Fd RX9 76 9 42 := ⟨RX9, TX9, 46, rfl, ug_X9, by decide, kf_RX9_76⟩
theorem kf_RX9_70 : Cond.fieldLink RX9 70 (TX9 34).1 (TX9 34).2.1 (TX9 34).2.2.1 ∈ sn_gw := sn_gwI (lb_4 (lt_16 (lt_16 (lt_16 (lt_16 (lt_16 (lt_16 (lt_16 (lt_16 (lt_16 (lt_8 lt_h))))))))))) gw_fieldLink
theorem fd_RX9_70 : sn_Fd RX9 70 9 34 := ⟨RX9, TX9, 46, rfl, ug_X9, by decide, kf_RX9_70⟩
theorem kf_RX9_372 : Cond.fieldLink RX9 372 (TX9 36).1 (TX9 36).2.1 (TX9 36).2.2.1 ∈ sn_gw := sn_gwI (lb_4 (lt_16 (lt_16 (lt_16 (lt_16 (lt_16 (lt_16 (lt_16 (lt_16 (lt_16 (lt_10 lt_h))))))))))) gw_fieldLink
theorem fd_RX9_372 : sn_Fd RX9 372 9 36 := ⟨RX9, TX9, 46, rfl, ug_X9, by decide, kf_RX9_372⟩
theorem kf_RX9_73 : Cond.fieldLink RX9 73 (TX9 35).1 (TX9 35).2.1 (TX9 35).2.2.1 ∈ sn_gw := sn_gwI (lb_4 (lt_16 (lt_16 (lt_16 (lt_16 (lt_16 (lt_16 (lt_16 (lt_16 (lt_16 (lt_9 lt_h))))))))))) gw_fieldLink
theorem fd_RX9_73 : sn_Fd RX9 73 9 35 := ⟨RX9, TX9, 46, rfl, ug_X9, by decide, kf_RX9_73⟩
theorem fp_RX9_372 : sn_Fp RX9 372 9 36 .int := ⟨RX9, TX9, 46, tyX9, rfl, ug_X9, by decide, kf_RX9_372, tyX9_ok, nmX9, rfl, tyX9_ok 36 (by decide)⟩
theorem kc_X9_numberAt : Cond.code yX9_numberAt cX9_numberAt 3 (some .long) ∈ sn_gw := sn_gwI (lb_6 (lt_16 (lt_16 (lt_16 (lt_16 (lt_16 (lt_16 (lt_16 (lt_16 (lt_16 (lt_16 (lt_16 (lt_16 (lt_16 (lt_7 lt_h))))))))))))))) gw_code
theorem km_RX9_368 : Cond.methodLink RX9 368 yX9_numberAt ∈ sn_gw := sn_gwI (lb_6 (lt_16 (lt_16 (lt_16 (lt_16 (lt_16 (lt_16 (lt_16 (lt_16 (lt_16 (lt_16 (lt_16 (lt_16 (lt_16 (lt_4 lt_h))))))))))))))) gw_methodLink
theorem kin_X9_numberAt : Cond.instanceMethod yX9_numberAt ∈ sn_gw := sn_gwI (lb_6 (lt_16 (lt_16 (lt_16 (lt_16 (lt_16 (lt_16 (lt_16 (lt_16 (lt_16 (lt_16 (lt_16 (lt_16 (lt_16 (lt_6 lt_h))))))))))))))) gw_instanceMethod
theorem ks_X9_numberAt : Cond.selects RX9 yX9_numberAt yX9_numberAt ∈ sn_gw := sn_gwS (q := (yX9_numberAt, 46)) (List.mem_of_getElem? (i := 87) rfl) gw_selects
theorem kl_RX9_368 : sn_LV RX9 368 yX9_numberAt cX9_numberAt 3 (some .long) 2 := ⟨sn_lv5 km_RX9_368 kin_X9_numberAt ks_X9_numberAt ki_RX9 kc_X9_numberAt, kva_3, kvb_3, kpd_22⟩
theorem kc_X9_isSlot : Cond.code yX9_isSlot cX9_isSlot 1 (some .boolean) ∈ sn_gw := sn_gwI (lb_6 (lt_16 (lt_16 (lt_16 (lt_16 (lt_16 (lt_16 (lt_16 (lt_16 (lt_16 (lt_16 (lt_16 (lt_16 (lt_16 (lt_3 lt_h))))))))))))))) gw_code
theorem km_RX9_365 : Cond.methodLink RX9 365 yX9_isSlot ∈ sn_gw := sn_gwI (lb_6 (lt_16 (lt_16 (lt_16 (lt_16 (lt_16 (lt_16 (lt_16 (lt_16 (lt_16 (lt_16 (lt_16 (lt_16 (lt_16 (lt_1 lt_h))))))))))))))) gw_methodLink
theorem kst_X9_isSlot : Cond.static yX9_isSlot ∈ sn_gw := sn_gwI (lb_6 (lt_16 (lt_16 (lt_16 (lt_16 (lt_16 (lt_16 (lt_16 (lt_16 (lt_16 (lt_16 (lt_16 (lt_16 (lt_16 (lt_2 lt_h))))))))))))))) gw_static
theorem kl_RX9_365 : sn_LS RX9 365 yX9_isSlot cX9_isSlot 1 (some .boolean) 1 := ⟨sn_ls4 km_RX9_365 kst_X9_isSlot ki_RX9 kc_X9_isSlot, kva_3, kvb_3, kpd_16⟩
theorem kc_X9_layPairs : Cond.code yX9_layPairs cX9_layPairs 6 (some .int) ∈ sn_gw := sn_gwI (lb_6 (lt_16 (lt_16 (lt_16 (lt_16 (lt_16 (lt_16 (lt_16 (lt_16 (lt_16 (lt_16 (lt_16 (lt_16 (lt_16 lt_h)))))))))))))) gw_code
theorem km_RX9_375 : Cond.methodLink RX9 375 yX9_layPairs ∈ sn_gw := sn_gwI (lb_6 (lt_16 (lt_16 (lt_16 (lt_16 (lt_16 (lt_16 (lt_16 (lt_16 (lt_16 (lt_16 (lt_16 (lt_16 (lt_13 lt_h)))))))))))))) gw_methodLink
theorem kin_X9_layPairs : Cond.instanceMethod yX9_layPairs ∈ sn_gw := sn_gwI (lb_6 (lt_16 (lt_16 (lt_16 (lt_16 (lt_16 (lt_16 (lt_16 (lt_16 (lt_16 (lt_16 (lt_16 (lt_16 (lt_15 lt_h)))))))))))))) gw_instanceMethod
theorem ks_X9_layPairs : Cond.selects RX9 yX9_layPairs yX9_layPairs ∈ sn_gw := sn_gwS (q := (yX9_layPairs, 46)) (List.mem_of_getElem? (i := 86) rfl) gw_selects
theorem kl_RX9_375 : sn_LV RX9 375 yX9_layPairs cX9_layPairs 6 (some .int) 1 := ⟨sn_lv5 km_RX9_375 kin_X9_layPairs ks_X9_layPairs ki_RX9 kc_X9_layPairs, kva_3, kvb_3, kpd_6⟩
theorem kf_RX9_378 : Cond.fieldLink RX9 378 (TX9 37).1 (TX9 37).2.1 (TX9 37).2.2.1 ∈ sn_gw := sn_gwI (lb_4 (lt_16 (lt_16 (lt_16 (lt_16 (lt_16 (lt_16 (lt_16 (lt_16 (lt_16 (lt_11 lt_h))))))))))) gw_fieldLink
theorem fd_RX9_378 : sn_Fd RX9 378 9 37 := ⟨RX9, TX9, 46, rfl, ug_X9, by decide, kf_RX9_378⟩
theorem fp_RX9_378 : sn_Fp RX9 378 9 37 .int := ⟨RX9, TX9, 46, tyX9, rfl, ug_X9, by decide, kf_RX9_378, tyX9_ok, nmX9, rfl, tyX9_ok 37 (by decide)⟩
theorem kc_X9_askOf : Cond.code yX9_askOf cX9_askOf 7 (some .int) ∈ sn_gw := sn_gwI (lb_6 (lt_16 (lt_16 (lt_16 (lt_16 (lt_16 (lt_16 (lt_16 (lt_16 (lt_16 (lt_16 (lt_16 (lt_16 (lt_16 (lt_16 (lt_7 lt_h)))))))))))))))) gw_code
theorem km_RX9_381 : Cond.methodLink RX9 381 yX9_askOf ∈ sn_gw := sn_gwI (lb_6 (lt_16 (lt_16 (lt_16 (lt_16 (lt_16 (lt_16 (lt_16 (lt_16 (lt_16 (lt_16 (lt_16 (lt_16 (lt_16 (lt_16 (lt_4 lt_h)))))))))))))))) gw_methodLink
theorem kin_X9_askOf : Cond.instanceMethod yX9_askOf ∈ sn_gw := sn_gwI (lb_6 (lt_16 (lt_16 (lt_16 (lt_16 (lt_16 (lt_16 (lt_16 (lt_16 (lt_16 (lt_16 (lt_16 (lt_16 (lt_16 (lt_16 (lt_6 lt_h)))))))))))))))) gw_instanceMethod
theorem ks_X9_askOf : Cond.selects RX9 yX9_askOf yX9_askOf ∈ sn_gw := sn_gwS (q := (yX9_askOf, 46)) (List.mem_of_getElem? (i := 88) rfl) gw_selects
theorem kl_RX9_381 : sn_LV RX9 381 yX9_askOf cX9_askOf 7 (some .int) 0 := ⟨sn_lv5 km_RX9_381 kin_X9_askOf ks_X9_askOf ki_RX9 kc_X9_askOf, kva_3, kvb_3, kpd_7⟩
theorem kc_X9_losesBy : Cond.code yX9_losesBy cX9_losesBy 8 (some .int) ∈ sn_gw := sn_gwI (lb_7 (lt_7 lt_h)) gw_code
theorem km_RX9_387 : Cond.methodLink RX9 387 yX9_losesBy ∈ sn_gw := sn_gwI (lb_7 (lt_4 lt_h)) gw_methodLink
theorem kin_X9_losesBy : Cond.instanceMethod yX9_losesBy ∈ sn_gw := sn_gwI (lb_7 (lt_6 lt_h)) gw_instanceMethod
theorem ks_X9_losesBy : Cond.selects RX9 yX9_losesBy yX9_losesBy ∈ sn_gw := sn_gwS (q := (yX9_losesBy, 46)) (List.mem_of_getElem? (i := 90) rfl) gw_selects
theorem kl_RX9_387 : sn_LV RX9 387 yX9_losesBy cX9_losesBy 8 (some .int) 5 := ⟨sn_lv5 km_RX9_387 kin_X9_losesBy ks_X9_losesBy ki_RX9 kc_X9_losesBy, kva_3, kvb_3, kpd_23⟩
theorem kc_X9_areTwo : Cond.code yX9_areTwo cX9_areTwo 3 (some .boolean) ∈ sn_gw := sn_gwI (lb_7 (lt_3 lt_h)) gw_code
theorem km_RX9_384 : Cond.methodLink RX9 384 yX9_areTwo ∈ sn_gw := sn_gwI (lb_7 lt_h) gw_methodLink
theorem kin_X9_areTwo : Cond.instanceMethod yX9_areTwo ∈ sn_gw := sn_gwI (lb_7 (lt_2 lt_h)) gw_instanceMethod
theorem ks_X9_areTwo : Cond.selects RX9 yX9_areTwo yX9_areTwo ∈ sn_gw := sn_gwS (q := (yX9_areTwo, 46)) (List.mem_of_getElem? (i := 89) rfl) gw_selects
theorem kl_RX9_384 : sn_LV RX9 384 yX9_areTwo cX9_areTwo 3 (some .boolean) 2 := ⟨sn_lv5 km_RX9_384 kin_X9_areTwo ks_X9_areTwo ki_RX9 kc_X9_areTwo, kva_3, kvb_3, kpd_20⟩
theorem kc_X9_allWithout : Cond.code yX9_allWithout cX9_allWithout 2 (some .int) ∈ sn_gw := sn_gwI (lb_7 (lt_16 (lt_3 lt_h))) gw_code
theorem km_RX9_391 : Cond.methodLink RX9 391 yX9_allWithout ∈ sn_gw := sn_gwI (lb_7 (lt_16 lt_h)) gw_methodLink
theorem kin_X9_allWithout : Cond.instanceMethod yX9_allWithout ∈ sn_gw := sn_gwI (lb_7 (lt_16 (lt_2 lt_h))) gw_instanceMethod
theorem ks_X9_allWithout : Cond.selects RX9 yX9_allWithout yX9_allWithout ∈ sn_gw := sn_gwS (q := (yX9_allWithout, 46)) (List.mem_of_getElem? (i := 91) rfl) gw_selects
theorem kl_RX9_391 : sn_LV RX9 391 yX9_allWithout cX9_allWithout 2 (some .int) 1 := ⟨sn_lv5 km_RX9_391 kin_X9_allWithout ks_X9_allWithout ki_RX9 kc_X9_allWithout, kva_3, kvb_3, kpd_6⟩
theorem kc_X9_divisor : Cond.code yX9_divisor cX9_divisor 10 (some .long) ∈ sn_gw := sn_gwI (lb_7 (lt_16 (lt_16 (lt_11 lt_h)))) gw_code
theorem km_RX9_394 : Cond.methodLink RX9 394 yX9_divisor ∈ sn_gw := sn_gwI (lb_7 (lt_16 (lt_16 (lt_9 lt_h)))) gw_methodLink
theorem kst_X9_divisor : Cond.static yX9_divisor ∈ sn_gw := sn_gwI (lb_7 (lt_16 (lt_16 (lt_10 lt_h)))) gw_static
theorem kl_RX9_394 : sn_LS RX9 394 yX9_divisor cX9_divisor 10 (some .long) 2 := ⟨sn_ls4 km_RX9_394 kst_X9_divisor ki_RX9 kc_X9_divisor, kva_3, kvb_3, kpd_24⟩
theorem kf_RX9_398 : Cond.fieldLink RX9 398 (TX9 38).1 (TX9 38).2.1 (TX9 38).2.2.1 ∈ sn_gw := sn_gwI (lb_4 (lt_16 (lt_16 (lt_16 (lt_16 (lt_16 (lt_16 (lt_16 (lt_16 (lt_16 (lt_12 lt_h))))))))))) gw_fieldLink
theorem fd_RX9_398 : sn_Fd RX9 398 9 38 := ⟨RX9, TX9, 46, rfl, ug_X9, by decide, kf_RX9_398⟩
theorem kf_RX9_402 : Cond.fieldLink RX9 402 (TX9 39).1 (TX9 39).2.1 (TX9 39).2.2.1 ∈ sn_gw := sn_gwI (lb_4 (lt_16 (lt_16 (lt_16 (lt_16 (lt_16 (lt_16 (lt_16 (lt_16 (lt_16 (lt_13 lt_h))))))))))) gw_fieldLink
theorem fd_RX9_402 : sn_Fd RX9 402 9 39 := ⟨RX9, TX9, 46, rfl, ug_X9, by decide, kf_RX9_402⟩
theorem kf_RX9_405 : Cond.fieldLink RX9 405 (TX9 40).1 (TX9 40).2.1 (TX9 40).2.2.1 ∈ sn_gw := sn_gwI (lb_4 (lt_16 (lt_16 (lt_16 (lt_16 (lt_16 (lt_16 (lt_16 (lt_16 (lt_16 (lt_14 lt_h))))))))))) gw_fieldLink
theorem fd_RX9_405 : sn_Fd RX9 405 9 40 := ⟨RX9, TX9, 46, rfl, ug_X9, by decide, kf_RX9_405⟩
theorem kf_RX9_408 : Cond.fieldLink RX9 408 (TX9 41).1 (TX9 41).2.1 (TX9 41).2.2.1 ∈ sn_gw := sn_gwI (lb_4 (lt_16 (lt_16 (lt_16 (lt_16 (lt_16 (lt_16 (lt_16 (lt_16 (lt_16 (lt_15 lt_h))))))))))) gw_fieldLink
theorem fd_RX9_408 : sn_Fd RX9 408 9 41 := ⟨RX9, TX9, 46, rfl, ug_X9, by decide, kf_RX9_408⟩
theorem fp_RX9_408 : sn_Fp RX9 408 9 41 .long := ⟨RX9, TX9, 46, tyX9, rfl, ug_X9, by decide, kf_RX9_408, tyX9_ok, nmX9, rfl, tyX9_ok 41 (by decide)⟩
theorem fp_RX9_405 : sn_Fp RX9 405 9 40 .long := ⟨RX9, TX9, 46, tyX9, rfl, ug_X9, by decide, kf_RX9_405, tyX9_ok, nmX9, rfl, tyX9_ok 40 (by decide)⟩
theorem fp_RX9_402 : sn_Fp RX9 402 9 39 .long := ⟨RX9, TX9, 46, tyX9, rfl, ug_X9, by decide, kf_RX9_402, tyX9_ok, nmX9, rfl, tyX9_ok 39 (by decide)⟩
theorem fp_RX9_398 : sn_Fp RX9 398 9 38 .long := ⟨RX9, TX9, 46, tyX9, rfl, ug_X9, by decide, kf_RX9_398, tyX9_ok, nmX9, rfl, tyX9_ok 38 (by decide)⟩
theorem kk_RX9_411 : Cond.constantLong RX9 411 (7) ∈ sn_gw := sn_gwI (lb_7 (lt_16 (lt_16 lt_h))) rfl
theorem kk_RX9_416 : Cond.constantLong RX9 416 (-2) ∈ sn_gw := sn_gwI (lb_7 (lt_16 (lt_16 (lt_1 lt_h)))) rfl
theorem kc_X9_isPuffs : Cond.code yX9_isPuffs cX9_isPuffs 3 (some .boolean) ∈ sn_gw := sn_gwI (lb_7 (lt_16 (lt_15 lt_h))) gw_code
theorem km_RX9_413 : Cond.methodLink RX9 413 yX9_isPuffs ∈ sn_gw := sn_gwI (lb_7 (lt_16 (lt_12 lt_h))) gw_methodLink
theorem kin_X9_isPuffs : Cond.instanceMethod yX9_isPuffs ∈ sn_gw := sn_gwI (lb_7 (lt_16 (lt_14 lt_h))) gw_instanceMethod
theorem ks_X9_isPuffs : Cond.selects RX9 yX9_isPuffs yX9_isPuffs ∈ sn_gw := sn_gwS (q := (yX9_isPuffs, 46)) (List.mem_of_getElem? (i := 92) rfl) gw_selects
theorem kl_RX9_413 : sn_LV RX9 413 yX9_isPuffs cX9_isPuffs 3 (some .boolean) 2 := ⟨sn_lv5 km_RX9_413 kin_X9_isPuffs ks_X9_isPuffs ki_RX9 kc_X9_isPuffs, kva_3, kvb_3, kpd_20⟩
theorem kc_X9_layPuffs : Cond.code yX9_layPuffs cX9_layPuffs 8 none ∈ sn_gw := sn_gwI (lb_7 (lt_16 (lt_16 (lt_5 lt_h)))) gw_code
theorem km_RX9_418 : Cond.methodLink RX9 418 yX9_layPuffs ∈ sn_gw := sn_gwI (lb_7 (lt_16 (lt_16 (lt_2 lt_h)))) gw_methodLink
theorem kin_X9_layPuffs : Cond.instanceMethod yX9_layPuffs ∈ sn_gw := sn_gwI (lb_7 (lt_16 (lt_16 (lt_4 lt_h)))) gw_instanceMethod
theorem ks_X9_layPuffs : Cond.selects RX9 yX9_layPuffs yX9_layPuffs ∈ sn_gw := sn_gwS (q := (yX9_layPuffs, 46)) (List.mem_of_getElem? (i := 93) rfl) gw_selects
theorem kl_RX9_418 : sn_LV RX9 418 yX9_layPuffs cX9_layPuffs 8 none 3 := ⟨sn_lv5 km_RX9_418 kin_X9_layPuffs ks_X9_layPuffs ki_RX9 kc_X9_layPuffs, kva_3, kvb_3, kpd_25⟩
theorem kc_X9_part : Cond.code yX9_part cX9_part 5 (some .long) ∈ sn_gw := sn_gwI (lb_7 (lt_16 (lt_16 (lt_8 lt_h)))) gw_code
theorem km_RX9_422 : Cond.methodLink RX9 422 yX9_part ∈ sn_gw := sn_gwI (lb_7 (lt_16 (lt_16 (lt_6 lt_h)))) gw_methodLink
theorem kst_X9_part : Cond.static yX9_part ∈ sn_gw := sn_gwI (lb_7 (lt_16 (lt_16 (lt_7 lt_h)))) gw_static
theorem kl_RX9_422 : sn_LS RX9 422 yX9_part cX9_part 5 (some .long) 3 := ⟨sn_ls4 km_RX9_422 kst_X9_part ki_RX9 kc_X9_part, kva_3, kvb_3, kpd_26⟩
theorem kc_X9_keepAct : Cond.code yX9_keepAct cX9_keepAct 2 (some .int) ∈ sn_gw := sn_gwI (lb_7 (lt_16 (lt_16 (lt_16 (lt_11 lt_h))))) gw_code
theorem km_RX9_426 : Cond.methodLink RX9 426 yX9_keepAct ∈ sn_gw := sn_gwI (lb_7 (lt_16 (lt_16 (lt_16 (lt_8 lt_h))))) gw_methodLink
theorem kin_X9_keepAct : Cond.instanceMethod yX9_keepAct ∈ sn_gw := sn_gwI (lb_7 (lt_16 (lt_16 (lt_16 (lt_10 lt_h))))) gw_instanceMethod
theorem ks_X9_keepAct : Cond.selects RX9 yX9_keepAct yX9_keepAct ∈ sn_gw := sn_gwS (q := (yX9_keepAct, 46)) (List.mem_of_getElem? (i := 94) rfl) gw_selects
theorem kl_RX9_426 : sn_LV RX9 426 yX9_keepAct cX9_keepAct 2 (some .int) 1 := ⟨sn_lv5 km_RX9_426 kin_X9_keepAct ks_X9_keepAct ki_RX9 kc_X9_keepAct, kva_3, kvb_3, kpd_6⟩
theorem kk_RX9_429 : Cond.constantLong RX9 429 (1103515245) ∈ sn_gw := sn_gwI (lb_7 (lt_16 (lt_16 (lt_16 (lt_16 (lt_16 (lt_4 lt_h))))))) rfl
theorem kk_RX9_431 : Cond.constantLong RX9 431 (12345) ∈ sn_gw := sn_gwI (lb_7 (lt_16 (lt_16 (lt_16 (lt_16 (lt_16 (lt_5 lt_h))))))) rfl
theorem kk_RX9_433 : Cond.constantLong RX9 433 (2147483648) ∈ sn_gw := sn_gwI (lb_7 (lt_16 (lt_16 (lt_16 (lt_16 (lt_16 (lt_6 lt_h))))))) rfl
theorem kk_RX9_435 : Cond.constantLong RX9 435 (65536) ∈ sn_gw := sn_gwI (lb_7 (lt_16 (lt_16 (lt_16 (lt_16 (lt_16 (lt_7 lt_h))))))) rfl
theorem kk_RX9_437 : Cond.constantLong RX9 437 (10) ∈ sn_gw := sn_gwI (lb_7 (lt_16 (lt_16 (lt_16 (lt_16 (lt_16 (lt_8 lt_h))))))) rfl
theorem kk_RX9_439 : Cond.constantLong RX9 439 (2000000000) ∈ sn_gw := sn_gwI (lb_7 (lt_16 (lt_16 (lt_16 (lt_16 (lt_15 lt_h)))))) rfl
theorem kc_X9_isSeed : Cond.code yX9_isSeed cX9_isSeed 1 (some .boolean) ∈ sn_gw := sn_gwI (lb_7 (lt_16 (lt_16 (lt_16 (lt_16 (lt_14 lt_h)))))) gw_code
theorem km_RX9_441 : Cond.methodLink RX9 441 yX9_isSeed ∈ sn_gw := sn_gwI (lb_7 (lt_16 (lt_16 (lt_16 (lt_16 (lt_12 lt_h)))))) gw_methodLink
theorem kst_X9_isSeed : Cond.static yX9_isSeed ∈ sn_gw := sn_gwI (lb_7 (lt_16 (lt_16 (lt_16 (lt_16 (lt_13 lt_h)))))) gw_static
theorem kl_RX9_441 : sn_LS RX9 441 yX9_isSeed cX9_isSeed 1 (some .boolean) 1 := ⟨sn_ls4 km_RX9_441 kst_X9_isSeed ki_RX9 kc_X9_isSeed, kva_3, kvb_3, kpd_16⟩
theorem kc_X9_goDrawn : Cond.code yX9_goDrawn cX9_goDrawn 7 (some .int) ∈ sn_gw := sn_gwI (lb_7 (lt_16 (lt_16 (lt_16 (lt_16 (lt_16 (lt_3 lt_h))))))) gw_code
theorem km_RX9_444 : Cond.methodLink RX9 444 yX9_goDrawn ∈ sn_gw := sn_gwI (lb_7 (lt_16 (lt_16 (lt_16 (lt_16 (lt_16 lt_h)))))) gw_methodLink
theorem kin_X9_goDrawn : Cond.instanceMethod yX9_goDrawn ∈ sn_gw := sn_gwI (lb_7 (lt_16 (lt_16 (lt_16 (lt_16 (lt_16 (lt_2 lt_h))))))) gw_instanceMethod
theorem ks_X9_goDrawn : Cond.selects RX9 yX9_goDrawn yX9_goDrawn ∈ sn_gw := sn_gwS (q := (yX9_goDrawn, 46)) (List.mem_of_getElem? (i := 95) rfl) gw_selects
theorem kl_RX9_444 : sn_LV RX9 444 yX9_goDrawn cX9_goDrawn 7 (some .int) 1 := ⟨sn_lv5 km_RX9_444 kin_X9_goDrawn ks_X9_goDrawn ki_RX9 kc_X9_goDrawn, kva_3, kvb_3, kpd_27⟩
theorem kk_RX9_448 : Cond.constantLong RX9 448 (20) ∈ sn_gw := sn_gwI (lb_7 (lt_16 (lt_16 (lt_16 (lt_16 (lt_16 (lt_13 lt_h))))))) rfl
theorem kk_RX9_450 : Cond.constantLong RX9 450 (99) ∈ sn_gw := sn_gwI (lb_7 (lt_16 (lt_16 (lt_16 (lt_16 (lt_16 (lt_16 (lt_2 lt_h)))))))) rfl
theorem kf_RX9_79 : Cond.fieldLink RX9 79 (TX9 43).1 (TX9 43).2.1 (TX9 43).2.2.1 ∈ sn_gw := sn_gwI (lb_4 (lt_16 (lt_16 (lt_16 (lt_16 (lt_16 (lt_16 (lt_16 (lt_16 (lt_16 (lt_16 (lt_1 lt_h)))))))))))) gw_fieldLink
theorem fd_RX9_79 : sn_Fd RX9 79 9 43 := ⟨RX9, TX9, 46, rfl, ug_X9, by decide, kf_RX9_79⟩
theorem kc_X9_cut_ : Cond.code yX9_cut_ cX9_cut_ 4 (some .long) ∈ sn_gw := sn_gwI (lb_7 (lt_16 (lt_16 (lt_16 (lt_16 (lt_16 (lt_16 (lt_16 (lt_1 lt_h))))))))) gw_code
theorem km_RX9_452 : Cond.methodLink RX9 452 yX9_cut_ ∈ sn_gw := sn_gwI (lb_7 (lt_16 (lt_16 (lt_16 (lt_16 (lt_16 (lt_16 (lt_15 lt_h)))))))) gw_methodLink
theorem kst_X9_cut_ : Cond.static yX9_cut_ ∈ sn_gw := sn_gwI (lb_7 (lt_16 (lt_16 (lt_16 (lt_16 (lt_16 (lt_16 (lt_16 lt_h)))))))) gw_static
theorem kl_RX9_452 : sn_LS RX9 452 yX9_cut_ cX9_cut_ 4 (some .long) 2 := ⟨sn_ls4 km_RX9_452 kst_X9_cut_ ki_RX9 kc_X9_cut_, kva_3, kvb_3, kpd_28⟩
theorem kf_RX9_86 : Cond.fieldLink RX9 86 (TX9 45).1 (TX9 45).2.1 (TX9 45).2.2.1 ∈ sn_gw := sn_gwI (lb_4 (lt_16 (lt_16 (lt_16 (lt_16 (lt_16 (lt_16 (lt_16 (lt_16 (lt_16 (lt_16 (lt_3 lt_h)))))))))))) gw_fieldLink
theorem fd_RX9_86 : sn_Fd RX9 86 9 45 := ⟨RX9, TX9, 46, rfl, ug_X9, by decide, kf_RX9_86⟩
theorem kf_RX2_9 : Cond.fieldLink RX2 9 (TX2 0).1 (TX2 0).2.1 (TX2 0).2.2.1 ∈ sn_gw := sn_gwI (lb_0 (lt_16 (lt_16 (lt_1 lt_h)))) gw_fieldLink
theorem fd_RX2_9 : sn_Fd RX2 9 2 0 := ⟨RX2, TX2, 6, rfl, ug_X2, by decide, kf_RX2_9⟩
theorem kf_RX2_27 : Cond.fieldLink RX2 27 (TX2 5).1 (TX2 5).2.1 (TX2 5).2.2.1 ∈ sn_gw := sn_gwI (lb_0 (lt_16 (lt_16 (lt_16 (lt_4 lt_h))))) gw_fieldLink
theorem fd_RX2_27 : sn_Fd RX2 27 2 5 := ⟨RX2, TX2, 6, rfl, ug_X2, by decide, kf_RX2_27⟩
theorem kf_RX0_46 : Cond.fieldLink RX0 46 (TX2 0).1 (TX2 0).2.1 (TX2 0).2.2.1 ∈ sn_gw := sn_gwI (lb_0 (lt_16 (lt_16 (lt_2 lt_h)))) gw_fieldLink
theorem fd_RX0_46 : sn_Fd RX0 46 2 0 := ⟨RX2, TX2, 6, rfl, ug_X2, by decide, kf_RX0_46⟩
theorem kf_RX0_60 : Cond.fieldLink RX0 60 (TX2 3).1 (TX2 3).2.1 (TX2 3).2.2.1 ∈ sn_gw := sn_gwI (lb_0 (lt_16 (lt_16 (lt_15 lt_h)))) gw_fieldLink
theorem fd_RX0_60 : sn_Fd RX0 60 2 3 := ⟨RX2, TX2, 6, rfl, ug_X2, by decide, kf_RX0_60⟩
theorem kf_RX0_31 : Cond.fieldLink RX0 31 (TX0 9).1 (TX0 9).2.1 (TX0 9).2.2.1 ∈ sn_gw := sn_gwI (lb_0 (lt_16 (lt_16 (lt_16 (lt_16 (lt_16 (lt_16 (lt_16 (lt_16 (lt_16 (lt_15 lt_h))))))))))) gw_fieldLink
theorem fd_RX0_31 : sn_Fd RX0 31 0 9 := ⟨RX0, TX0, 14, rfl, ug_X0, by decide, kf_RX0_31⟩
theorem kf_RX0_54 : Cond.fieldLink RX0 54 (TX0 1).1 (TX0 1).2.1 (TX0 1).2.2.1 ∈ sn_gw := sn_gwI (lb_0 (lt_16 (lt_16 (lt_16 (lt_16 (lt_16 (lt_16 (lt_16 (lt_16 (lt_11 lt_h)))))))))) gw_fieldLink
theorem fd_RX0_54 : sn_Fd RX0 54 0 1 := ⟨RX0, TX0, 14, rfl, ug_X0, by decide, kf_RX0_54⟩
theorem kf_RX0_19 : Cond.fieldLink RX0 19 (TX0 5).1 (TX0 5).2.1 (TX0 5).2.2.1 ∈ sn_gw := sn_gwI (lb_0 (lt_16 (lt_16 (lt_16 (lt_16 (lt_16 (lt_16 (lt_16 (lt_16 (lt_16 (lt_5 lt_h))))))))))) gw_fieldLink
theorem fd_RX0_19 : sn_Fd RX0 19 0 5 := ⟨RX0, TX0, 14, rfl, ug_X0, by decide, kf_RX0_19⟩
theorem kf_RX0_67 : Cond.fieldLink RX0 67 (TX2 1).1 (TX2 1).2.1 (TX2 1).2.2.1 ∈ sn_gw := sn_gwI (lb_0 (lt_16 (lt_16 (lt_8 lt_h)))) gw_fieldLink
theorem fd_RX0_67 : sn_Fd RX0 67 2 1 := ⟨RX2, TX2, 6, rfl, ug_X2, by decide, kf_RX0_67⟩
theorem kf_RX0_22 : Cond.fieldLink RX0 22 (TX0 6).1 (TX0 6).2.1 (TX0 6).2.2.1 ∈ sn_gw := sn_gwI (lb_0 (lt_16 (lt_16 (lt_16 (lt_16 (lt_16 (lt_16 (lt_16 (lt_16 (lt_16 (lt_7 lt_h))))))))))) gw_fieldLink
theorem fd_RX0_22 : sn_Fd RX0 22 0 6 := ⟨RX0, TX0, 14, rfl, ug_X0, by decide, kf_RX0_22⟩
theorem kf_RX0_25 : Cond.fieldLink RX0 25 (TX0 7).1 (TX0 7).2.1 (TX0 7).2.2.1 ∈ sn_gw := sn_gwI (lb_0 (lt_16 (lt_16 (lt_16 (lt_16 (lt_16 (lt_16 (lt_16 (lt_16 (lt_16 (lt_10 lt_h))))))))))) gw_fieldLink
theorem fd_RX0_25 : sn_Fd RX0 25 0 7 := ⟨RX0, TX0, 14, rfl, ug_X0, by decide, kf_RX0_25⟩
theorem kf_RX0_28 : Cond.fieldLink RX0 28 (TX0 8).1 (TX0 8).2.1 (TX0 8).2.2.1 ∈ sn_gw := sn_gwI (lb_0 (lt_16 (lt_16 (lt_16 (lt_16 (lt_16 (lt_16 (lt_16 (lt_16 (lt_16 (lt_13 lt_h))))))))))) gw_fieldLink
theorem fd_RX0_28 : sn_Fd RX0 28 0 8 := ⟨RX0, TX0, 14, rfl, ug_X0, by decide, kf_RX0_28⟩
theorem kf_RX0_15 : Cond.fieldLink RX0 15 (TX0 4).1 (TX0 4).2.1 (TX0 4).2.2.1 ∈ sn_gw := sn_gwI (lb_0 (lt_16 (lt_16 (lt_16 (lt_16 (lt_16 (lt_16 (lt_16 (lt_16 (lt_16 (lt_1 lt_h))))))))))) gw_fieldLink
theorem fd_RX0_15 : sn_Fd RX0 15 0 4 := ⟨RX0, TX0, 14, rfl, ug_X0, by decide, kf_RX0_15⟩
theorem kf_RX0_80 : Cond.fieldLink RX0 80 (TX2 2).1 (TX2 2).2.1 (TX2 2).2.2.1 ∈ sn_gw := sn_gwI (lb_0 (lt_16 (lt_16 (lt_12 lt_h)))) gw_fieldLink
theorem fd_RX0_80 : sn_Fd RX0 80 2 2 := ⟨RX2, TX2, 6, rfl, ug_X2, by decide, kf_RX0_80⟩
theorem kc_J7_fill_53178 : Cond.code yJ7_fill_53178 cJ7_fill_53178 4 none ∈ sn_gw := sn_gwI (lb_0 (lt_16 (lt_16 (lt_16 (lt_16 (lt_16 (lt_16 (lt_16 (lt_1 lt_h))))))))) gw_code
theorem km_RX0_74 : Cond.methodLink RX0 74 yJ7_fill_53178 ∈ sn_gw := sn_gwI (lb_2 (lt_14 lt_h)) gw_methodLink
theorem kst_J7_fill_53178 : Cond.static yJ7_fill_53178 ∈ sn_gw := sn_gwI (lb_0 (lt_16 (lt_16 (lt_16 (lt_16 (lt_16 (lt_16 (lt_16 lt_h)))))))) gw_static
theorem ki_RJ7 : Cond.initialized RJ7 ∈ sn_gw := sn_gwI (lb_0 (lt_5 lt_h)) gw_initialized
theorem kl_RX0_74 : sn_LS RX0 74 yJ7_fill_53178 cJ7_fill_53178 4 none 2 := ⟨sn_ls4 km_RX0_74 kst_J7_fill_53178 ki_RJ7 kc_J7_fill_53178, kva_4, kvb_4, kpd_29⟩
theorem kc_X2_minutesOfActs : Cond.code yX2_minutesOfActs cX2_minutesOfActs 5 (some .int) ∈ sn_gw := sn_gwI (lb_2 (lt_13 lt_h)) gw_code
theorem km_RX0_70 : Cond.methodLink RX0 70 yX2_minutesOfActs ∈ sn_gw := sn_gwI (lb_2 (lt_10 lt_h)) gw_methodLink
theorem kin_X2_minutesOfActs : Cond.instanceMethod yX2_minutesOfActs ∈ sn_gw := sn_gwI (lb_2 (lt_11 lt_h)) gw_instanceMethod
theorem ks_X2_minutesOfActs : Cond.selects RX2 yX2_minutesOfActs yX2_minutesOfActs ∈ sn_gw := sn_gwI (lb_2 (lt_12 lt_h)) gw_selects
theorem ki_RX2 : Cond.initialized RX2 ∈ sn_gw := sn_gwI (lb_0 (lt_2 lt_h)) gw_initialized
theorem kl_RX0_70 : sn_LV RX0 70 yX2_minutesOfActs cX2_minutesOfActs 5 (some .int) 2 := ⟨sn_lv5 km_RX0_70 kin_X2_minutesOfActs ks_X2_minutesOfActs ki_RX2 kc_X2_minutesOfActs, kva_5, kvb_5, kpd_13⟩
theorem kf_RX0_51 : Cond.fieldLink RX0 51 (TX0 0).1 (TX0 0).2.1 (TX0 0).2.2.1 ∈ sn_gw := sn_gwI (lb_0 (lt_16 (lt_16 (lt_16 (lt_16 (lt_16 (lt_16 (lt_16 (lt_16 (lt_6 lt_h)))))))))) gw_fieldLink
theorem fp_RX0_51 : sn_Fp RX0 51 0 0 .int := ⟨RX0, TX0, 14, tyX0, rfl, ug_X0, by decide, kf_RX0_51, tyX0_ok, nmX0, rfl, tyX0_ok 0 (by decide)⟩
theorem fp_RX0_54 : sn_Fp RX0 54 0 1 .int := ⟨RX0, TX0, 14, tyX0, rfl, ug_X0, by decide, kf_RX0_54, tyX0_ok, nmX0, rfl, tyX0_ok 1 (by decide)⟩
theorem kf_RX0_57 : Cond.fieldLink RX0 57 (TX0 2).1 (TX0 2).2.1 (TX0 2).2.2.1 ∈ sn_gw := sn_gwI (lb_0 (lt_16 (lt_16 (lt_16 (lt_16 (lt_16 (lt_16 (lt_16 (lt_16 (lt_14 lt_h)))))))))) gw_fieldLink
theorem fp_RX0_57 : sn_Fp RX0 57 0 2 .int := ⟨RX0, TX0, 14, tyX0, rfl, ug_X0, by decide, kf_RX0_57, tyX0_ok, nmX0, rfl, tyX0_ok 2 (by decide)⟩
theorem kf_RX0_9 : Cond.fieldLink RX0 9 (TX0 3).1 (TX0 3).2.1 (TX0 3).2.2.1 ∈ sn_gw := sn_gwI (lb_0 (lt_16 (lt_16 (lt_16 (lt_16 (lt_16 (lt_16 (lt_16 (lt_16 (lt_15 lt_h)))))))))) gw_fieldLink
theorem fp_RX0_9 : sn_Fp RX0 9 0 3 .int := ⟨RX0, TX0, 14, tyX0, rfl, ug_X0, by decide, kf_RX0_9, tyX0_ok, nmX0, rfl, tyX0_ok 3 (by decide)⟩
theorem km_RX0_61 : Cond.methodLink RX0 61 arraycopyName ∈ sn_gw := sn_gwI (lb_2 (lt_9 lt_h)) gw_methodLink
theorem kst_copy : Cond.static arraycopyName ∈ sn_gw := sn_gwI (lb_1 (lt_16 (lt_16 (lt_16 (lt_16 (lt_16 (lt_16 (lt_16 (lt_16 (lt_16 (lt_16 (lt_16 (lt_16 (lt_16 (lt_16 (lt_15 lt_h)))))))))))))))) gw_static
theorem ki_System : Cond.initialized "java/lang/System" ∈ sn_gw := sn_gwI (lb_0 (lt_16 (lt_1 lt_h))) gw_initialized
theorem kna_copy : Cond.native arraycopyName ∈ sn_gw := sn_gwI (lb_2 lt_h) rfl
theorem fd_RX0_51 : sn_Fd RX0 51 0 0 := ⟨RX0, TX0, 14, rfl, ug_X0, by decide, kf_RX0_51⟩
theorem fd_RX0_57 : sn_Fd RX0 57 0 2 := ⟨RX0, TX0, 14, rfl, ug_X0, by decide, kf_RX0_57⟩
theorem fd_RX0_9 : sn_Fd RX0 9 0 3 := ⟨RX0, TX0, 14, rfl, ug_X0, by decide, kf_RX0_9⟩
theorem kf_RX0_34 : Cond.fieldLink RX0 34 (TX0 10).1 (TX0 10).2.1 (TX0 10).2.2.1 ∈ sn_gw := sn_gwI (lb_0 (lt_16 (lt_16 (lt_16 (lt_16 (lt_16 (lt_16 (lt_16 (lt_16 (lt_16 (lt_16 lt_h))))))))))) gw_fieldLink
theorem fd_RX0_34 : sn_Fd RX0 34 0 10 := ⟨RX0, TX0, 14, rfl, ug_X0, by decide, kf_RX0_34⟩
theorem kf_RX0_37 : Cond.fieldLink RX0 37 (TX0 11).1 (TX0 11).2.1 (TX0 11).2.2.1 ∈ sn_gw := sn_gwI (lb_0 (lt_16 (lt_16 (lt_16 (lt_16 (lt_16 (lt_16 (lt_16 (lt_16 (lt_16 (lt_16 (lt_1 lt_h)))))))))))) gw_fieldLink
theorem fd_RX0_37 : sn_Fd RX0 37 0 11 := ⟨RX0, TX0, 14, rfl, ug_X0, by decide, kf_RX0_37⟩
theorem kf_RX0_40 : Cond.fieldLink RX0 40 (TX0 12).1 (TX0 12).2.1 (TX0 12).2.2.1 ∈ sn_gw := sn_gwI (lb_0 (lt_16 (lt_16 (lt_16 (lt_16 (lt_16 (lt_16 (lt_16 (lt_16 (lt_16 (lt_16 (lt_2 lt_h)))))))))))) gw_fieldLink
theorem fd_RX0_40 : sn_Fd RX0 40 0 12 := ⟨RX0, TX0, 14, rfl, ug_X0, by decide, kf_RX0_40⟩
theorem kf_RX0_43 : Cond.fieldLink RX0 43 (TX0 13).1 (TX0 13).2.1 (TX0 13).2.2.1 ∈ sn_gw := sn_gwI (lb_0 (lt_16 (lt_16 (lt_16 (lt_16 (lt_16 (lt_16 (lt_16 (lt_16 (lt_16 (lt_16 (lt_4 lt_h)))))))))))) gw_fieldLink
theorem fd_RX0_43 : sn_Fd RX0 43 0 13 := ⟨RX0, TX0, 14, rfl, ug_X0, by decide, kf_RX0_43⟩
theorem kc_X8_hasBit : Cond.code yX8_hasBit cX8_hasBit 2 (some .boolean) ∈ sn_gw := sn_gwI (lb_2 (lt_16 (lt_16 lt_h))) gw_code
theorem kst_X8_hasBit : Cond.static yX8_hasBit ∈ sn_gw := sn_gwI (lb_2 (lt_16 (lt_15 lt_h))) gw_static
theorem ki_RX8 : Cond.initialized RX8 ∈ sn_gw := sn_gwI (lb_0 (lt_1 lt_h)) gw_initialized
theorem kl_RX0_98 : sn_LN RX0 98 yX8_hasBit RX8 cX8_hasBit 2 (some .boolean) 2 := ⟨sn_cg kc_X8_hasBit, (List.mem_of_getElem? (i := 10) rfl), kst_X8_hasBit, ki_RX8, kva_6, kvb_6, kpd_20⟩
theorem kc_X0_cameAt : Cond.code yX0_cameAt cX0_cameAt 3 (some .int) ∈ sn_gw := sn_gwI (lb_2 (lt_16 (lt_16 (lt_12 lt_h)))) gw_code
theorem km_RX0_105 : Cond.methodLink RX0 105 yX0_cameAt ∈ sn_gw := sn_gwI (lb_2 (lt_16 (lt_16 (lt_9 lt_h)))) gw_methodLink
theorem kin_X0_cameAt : Cond.instanceMethod yX0_cameAt ∈ sn_gw := sn_gwI (lb_2 (lt_16 (lt_16 (lt_10 lt_h)))) gw_instanceMethod
theorem ks_X0_cameAt : Cond.selects RX0 yX0_cameAt yX0_cameAt ∈ sn_gw := sn_gwI (lb_2 (lt_16 (lt_16 (lt_11 lt_h)))) gw_selects
theorem ki_RX0 : Cond.initialized RX0 ∈ sn_gw := sn_gwI (lb_0 (lt_6 lt_h)) gw_initialized
theorem kl_RX0_105 : sn_LV RX0 105 yX0_cameAt cX0_cameAt 3 (some .int) 2 := ⟨sn_lv5 km_RX0_105 kin_X0_cameAt ks_X0_cameAt ki_RX0 kc_X0_cameAt, kva_7, kvb_7, kpd_13⟩
theorem kc_X0_comesTo : Cond.code yX0_comesTo cX0_comesTo 4 (some .int) ∈ sn_gw := sn_gwI (lb_2 (lt_16 (lt_16 (lt_8 lt_h)))) gw_code
theorem km_RX0_102 : Cond.methodLink RX0 102 yX0_comesTo ∈ sn_gw := sn_gwI (lb_2 (lt_16 (lt_16 (lt_5 lt_h)))) gw_methodLink
theorem kin_X0_comesTo : Cond.instanceMethod yX0_comesTo ∈ sn_gw := sn_gwI (lb_2 (lt_16 (lt_16 (lt_6 lt_h)))) gw_instanceMethod
theorem ks_X0_comesTo : Cond.selects RX0 yX0_comesTo yX0_comesTo ∈ sn_gw := sn_gwI (lb_2 (lt_16 (lt_16 (lt_7 lt_h)))) gw_selects
theorem kl_RX0_102 : sn_LV RX0 102 yX0_comesTo cX0_comesTo 4 (some .int) 2 := ⟨sn_lv5 km_RX0_102 kin_X0_comesTo ks_X0_comesTo ki_RX0 kc_X0_comesTo, kva_7, kvb_7, kpd_13⟩
theorem kc_X0_tickleByNets : Cond.code yX0_tickleByNets cX0_tickleByNets 7 none ∈ sn_gw := sn_gwI (lb_2 (lt_16 (lt_13 lt_h))) gw_code
theorem km_RX0_91 : Cond.methodLink RX0 91 yX0_tickleByNets ∈ sn_gw := sn_gwI (lb_2 (lt_16 (lt_10 lt_h))) gw_methodLink
theorem kin_X0_tickleByNets : Cond.instanceMethod yX0_tickleByNets ∈ sn_gw := sn_gwI (lb_2 (lt_16 (lt_12 lt_h))) gw_instanceMethod
theorem ks_X0_tickleByNets : Cond.selects RX0 yX0_tickleByNets yX0_tickleByNets ∈ sn_gw := sn_gwS (q := (yX0_tickleByNets, 14)) (List.mem_of_getElem? (i := 15) rfl) gw_selects
theorem kl_RX0_91 : sn_LV RX0 91 yX0_tickleByNets cX0_tickleByNets 7 none 1 := ⟨sn_lv5 km_RX0_91 kin_X0_tickleByNets ks_X0_tickleByNets ki_RX0 kc_X0_tickleByNets, kva_7, kvb_7, kpd_11⟩
theorem kc_X0_liveMinute : Cond.code yX0_liveMinute cX0_liveMinute 6 none ∈ sn_gw := sn_gwI (lb_2 (lt_16 (lt_16 (lt_4 lt_h)))) gw_code
theorem km_RX0_95 : Cond.methodLink RX0 95 yX0_liveMinute ∈ sn_gw := sn_gwI (lb_2 (lt_16 (lt_16 (lt_1 lt_h)))) gw_methodLink
theorem kin_X0_liveMinute : Cond.instanceMethod yX0_liveMinute ∈ sn_gw := sn_gwI (lb_2 (lt_16 (lt_16 (lt_3 lt_h)))) gw_instanceMethod
theorem ks_X0_liveMinute : Cond.selects RX0 yX0_liveMinute yX0_liveMinute ∈ sn_gw := sn_gwS (q := (yX0_liveMinute, 14)) (List.mem_of_getElem? (i := 16) rfl) gw_selects
theorem kl_RX0_95 : sn_LV RX0 95 yX0_liveMinute cX0_liveMinute 6 none 1 := ⟨sn_lv5 km_RX0_95 kin_X0_liveMinute ks_X0_liveMinute ki_RX0 kc_X0_liveMinute, kva_7, kvb_7, kpd_11⟩
theorem kc_X8_firstMinutes : Cond.code yX8_firstMinutes cX8_firstMinutes 1 (some .int) ∈ sn_gw := sn_gwI (lb_2 (lt_16 (lt_9 lt_h))) gw_code
theorem kst_X8_firstMinutes : Cond.static yX8_firstMinutes ∈ sn_gw := sn_gwI (lb_2 (lt_16 (lt_8 lt_h))) gw_static
theorem kl_RX0_87 : sn_LN RX0 87 yX8_firstMinutes RX8 cX8_firstMinutes 1 (some .int) 1 := ⟨sn_cg kc_X8_firstMinutes, (List.mem_of_getElem? (i := 9) rfl), kst_X8_firstMinutes, ki_RX8, kva_6, kvb_6, kpd_6⟩
theorem kc_X0_live : Cond.code yX0_live cX0_live 4 none ∈ sn_gw := sn_gwI (lb_2 (lt_16 (lt_6 lt_h))) gw_code
theorem km_RX0_83 : Cond.methodLink RX0 83 yX0_live ∈ sn_gw := sn_gwI (lb_2 (lt_16 (lt_3 lt_h))) gw_methodLink
theorem kin_X0_live : Cond.instanceMethod yX0_live ∈ sn_gw := sn_gwI (lb_2 (lt_16 (lt_4 lt_h))) gw_instanceMethod
theorem ks_X0_live : Cond.selects RX0 yX0_live yX0_live ∈ sn_gw := sn_gwI (lb_2 (lt_16 (lt_5 lt_h))) gw_selects
theorem kl_RX0_83 : sn_LV RX0 83 yX0_live cX0_live 4 none 2 := ⟨sn_lv5 km_RX0_83 kin_X0_live ks_X0_live ki_RX0 kc_X0_live, kva_7, kvb_7, kpd_3⟩
theorem kk_RJ6_265 : Cond.constant RJ6 265 (1431655765) ∈ sn_gw := sn_gwI (lb_2 (lt_16 (lt_16 (lt_16 (lt_16 (lt_16 (lt_16 (lt_4 lt_h)))))))) rfl
theorem kk_RJ6_266 : Cond.constant RJ6 266 (858993459) ∈ sn_gw := sn_gwI (lb_2 (lt_16 (lt_16 (lt_16 (lt_16 (lt_16 (lt_16 (lt_5 lt_h)))))))) rfl
theorem kk_RJ6_267 : Cond.constant RJ6 267 (252645135) ∈ sn_gw := sn_gwI (lb_2 (lt_16 (lt_16 (lt_16 (lt_16 (lt_16 (lt_16 (lt_6 lt_h)))))))) rfl
theorem kc_J6_bitCount_0f7a4 : Cond.code yJ6_bitCount_0f7a4 cJ6_bitCount_0f7a4 1 (some .int) ∈ sn_gw := sn_gwI (lb_2 (lt_16 (lt_16 (lt_16 (lt_16 (lt_16 (lt_16 (lt_3 lt_h)))))))) gw_code
theorem km_RX0_108 : Cond.methodLink RX0 108 yJ6_bitCount_0f7a4 ∈ sn_gw := sn_gwI (lb_2 (lt_16 (lt_16 (lt_16 (lt_16 (lt_16 (lt_16 (lt_16 (lt_3 lt_h))))))))) gw_methodLink
theorem kst_J6_bitCount_0f7a4 : Cond.static yJ6_bitCount_0f7a4 ∈ sn_gw := sn_gwI (lb_2 (lt_16 (lt_16 (lt_16 (lt_16 (lt_16 (lt_16 (lt_2 lt_h)))))))) gw_static
theorem ki_RJ6 : Cond.initialized RJ6 ∈ sn_gw := sn_gwI (lb_0 (lt_16 (lt_2 lt_h))) gw_initialized
theorem kl_RX0_108 : sn_LS RX0 108 yJ6_bitCount_0f7a4 cJ6_bitCount_0f7a4 1 (some .int) 1 := ⟨sn_ls4 km_RX0_108 kst_J6_bitCount_0f7a4 ki_RJ6 kc_J6_bitCount_0f7a4, kva_8, kvb_8, kpd_6⟩
theorem kf_RX2_24 : Cond.fieldLink RX2 24 (TX2 4).1 (TX2 4).2.1 (TX2 4).2.2.1 ∈ sn_gw := sn_gwI (lb_0 (lt_16 (lt_16 (lt_16 (lt_1 lt_h))))) gw_fieldLink
theorem fd_RX2_24 : sn_Fd RX2 24 2 4 := ⟨RX2, TX2, 6, rfl, ug_X2, by decide, kf_RX2_24⟩
theorem kf_RX1_9 : Cond.fieldLink RX1 9 (TX1 0).1 (TX1 0).2.1 (TX1 0).2.2.1 ∈ sn_gw := sn_gwI (lb_0 (lt_16 (lt_16 (lt_16 (lt_16 (lt_16 (lt_16 (lt_16 (lt_16 (lt_16 (lt_16 (lt_16 (lt_16 (lt_16 (lt_16 (lt_3 lt_h)))))))))))))))) gw_fieldLink
theorem fd_RX1_9 : sn_Fd RX1 9 1 0 := ⟨RX1, TX1, 2, rfl, ug_X1, by decide, kf_RX1_9⟩
theorem kf_RX1_51 : Cond.fieldLink RX1 51 (TX0 6).1 (TX0 6).2.1 (TX0 6).2.2.1 ∈ sn_gw := sn_gwI (lb_0 (lt_16 (lt_16 (lt_16 (lt_16 (lt_16 (lt_16 (lt_16 (lt_16 (lt_16 (lt_8 lt_h))))))))))) gw_fieldLink
theorem fd_RX1_51 : sn_Fd RX1 51 0 6 := ⟨RX0, TX0, 14, rfl, ug_X0, by decide, kf_RX1_51⟩
theorem kk_RX1_58 : Cond.constantLong RX1 58 (1073741824) ∈ sn_gw := sn_gwI (lb_3 (lt_16 (lt_16 (lt_16 (lt_16 (lt_16 (lt_16 (lt_16 (lt_12 lt_h))))))))) rfl
theorem kf_RX1_32 : Cond.fieldLink RX1 32 (TX1 1).1 (TX1 1).2.1 (TX1 1).2.2.1 ∈ sn_gw := sn_gwI (lb_0 (lt_16 (lt_16 (lt_16 (lt_16 (lt_16 (lt_16 (lt_16 (lt_16 (lt_16 (lt_16 (lt_16 (lt_16 (lt_16 (lt_16 (lt_4 lt_h)))))))))))))))) gw_fieldLink
theorem fd_RX1_32 : sn_Fd RX1 32 1 1 := ⟨RX1, TX1, 2, rfl, ug_X1, by decide, kf_RX1_32⟩
theorem km_RX1_55 : Cond.methodLink RX1 55 Lib.MathLoose.min_long.x ∈ sn_gw := sn_gwI (lb_3 (lt_16 (lt_16 (lt_16 (lt_16 (lt_16 (lt_16 (lt_16 (lt_9 lt_h))))))))) gw_methodLink
theorem kst_minL : Cond.static Lib.MathLoose.min_long.x ∈ sn_gw := sn_gwI (lb_3 (lt_16 (lt_16 (lt_16 (lt_16 (lt_16 (lt_16 (lt_16 (lt_10 lt_h))))))))) gw_static
theorem kc_minL : Cond.code Lib.MathLoose.min_long.x Lib.MathLoose.min_long.code 4 (some .long) ∈ sn_gw := sn_gwI (lb_3 (lt_16 (lt_16 (lt_16 (lt_16 (lt_16 (lt_16 (lt_16 (lt_11 lt_h))))))))) gw_code
theorem fp_RX1_32 : sn_Fp RX1 32 1 1 .long := ⟨RX1, TX1, 2, tyX1, rfl, ug_X1, by decide, kf_RX1_32, tyX1_ok, nmX1, rfl, tyX1_ok 1 (by decide)⟩
theorem km_RX1_48 : Cond.methodLink RX1 48 yX0_comesTo ∈ sn_gw := sn_gwI (lb_3 (lt_16 (lt_16 (lt_16 (lt_16 (lt_16 (lt_16 (lt_16 (lt_8 lt_h))))))))) gw_methodLink
theorem kl_RX1_48 : sn_LV RX1 48 yX0_comesTo cX0_comesTo 4 (some .int) 2 := ⟨sn_lv5 km_RX1_48 kin_X0_comesTo ks_X0_comesTo ki_RX0 kc_X0_comesTo, kva_7, kvb_7, kpd_13⟩
theorem kf_RX1_21 : Cond.fieldLink RX1 21 (TX0 0).1 (TX0 0).2.1 (TX0 0).2.2.1 ∈ sn_gw := sn_gwI (lb_0 (lt_16 (lt_16 (lt_16 (lt_16 (lt_16 (lt_16 (lt_16 (lt_16 (lt_7 lt_h)))))))))) gw_fieldLink
theorem fd_RX1_21 : sn_Fd RX1 21 0 0 := ⟨RX0, TX0, 14, rfl, ug_X0, by decide, kf_RX1_21⟩
theorem kk_RX1_36 : Cond.constantLong RX1 36 (4611686018427387904) ∈ sn_gw := sn_gwI (lb_3 (lt_16 (lt_16 (lt_16 (lt_16 (lt_16 (lt_16 (lt_16 lt_h)))))))) rfl
theorem kc_X2_ofPolicy : Cond.code yX2_ofPolicy cX2_ofPolicy 3 (some .int) ∈ sn_gw := sn_gwI (lb_2 (lt_16 (lt_16 (lt_16 (lt_16 (lt_5 lt_h)))))) gw_code
theorem km_RX1_15 : Cond.methodLink RX1 15 yX2_ofPolicy ∈ sn_gw := sn_gwI (lb_3 (lt_16 (lt_16 (lt_16 (lt_16 (lt_16 (lt_16 (lt_14 lt_h)))))))) gw_methodLink
theorem kin_X2_ofPolicy : Cond.instanceMethod yX2_ofPolicy ∈ sn_gw := sn_gwI (lb_2 (lt_16 (lt_16 (lt_16 (lt_16 (lt_3 lt_h)))))) gw_instanceMethod
theorem ks_X2_ofPolicy : Cond.selects RX2 yX2_ofPolicy yX2_ofPolicy ∈ sn_gw := sn_gwI (lb_2 (lt_16 (lt_16 (lt_16 (lt_16 (lt_4 lt_h)))))) gw_selects
theorem kl_RX1_15 : sn_LV RX1 15 yX2_ofPolicy cX2_ofPolicy 3 (some .int) 2 := ⟨sn_lv5 km_RX1_15 kin_X2_ofPolicy ks_X2_ofPolicy ki_RX2 kc_X2_ofPolicy, kva_5, kvb_5, kpd_13⟩
theorem kc_X1_goOn : Cond.code yX1_goOn cX1_goOn 10 none ∈ sn_gw := sn_gwI (lb_3 (lt_16 (lt_16 (lt_16 (lt_16 (lt_16 (lt_16 (lt_16 (lt_7 lt_h))))))))) gw_code
theorem km_RX1_44 : Cond.methodLink RX1 44 yX1_goOn ∈ sn_gw := sn_gwI (lb_3 (lt_16 (lt_16 (lt_16 (lt_16 (lt_16 (lt_16 (lt_16 (lt_4 lt_h))))))))) gw_methodLink
theorem kin_X1_goOn : Cond.instanceMethod yX1_goOn ∈ sn_gw := sn_gwI (lb_3 (lt_16 (lt_16 (lt_16 (lt_16 (lt_16 (lt_16 (lt_16 (lt_6 lt_h))))))))) gw_instanceMethod
theorem ks_X1_goOn : Cond.selects RX1 yX1_goOn yX1_goOn ∈ sn_gw := sn_gwS (q := (yX1_goOn, 2)) (List.mem_of_getElem? (i := 30) rfl) gw_selects
theorem ki_RX1 : Cond.initialized RX1 ∈ sn_gw := sn_gwI (lb_0 (lt_8 lt_h)) gw_initialized
theorem kl_RX1_44 : sn_LV RX1 44 yX1_goOn cX1_goOn 10 none 5 := ⟨sn_lv5 km_RX1_44 kin_X1_goOn ks_X1_goOn ki_RX1 kc_X1_goOn, kva_9, kvb_9, kpd_30⟩
theorem km_RX1_27 : Cond.methodLink RX1 27 Lib.Math.min.name ∈ sn_gw := sn_gwI (lb_3 (lt_16 (lt_16 (lt_16 (lt_16 (lt_16 (lt_16 (lt_15 lt_h)))))))) gw_methodLink
theorem kc_J7_fill_d0a16 : Cond.code yJ7_fill_d0a16 cJ7_fill_d0a16 5 none ∈ sn_gw := sn_gwI (lb_3 (lt_16 (lt_16 (lt_16 (lt_16 (lt_16 (lt_16 (lt_16 (lt_3 lt_h))))))))) gw_code
theorem km_RX1_38 : Cond.methodLink RX1 38 yJ7_fill_d0a16 ∈ sn_gw := sn_gwI (lb_3 (lt_16 (lt_16 (lt_16 (lt_16 (lt_16 (lt_16 (lt_16 (lt_1 lt_h))))))))) gw_methodLink
theorem kst_J7_fill_d0a16 : Cond.static yJ7_fill_d0a16 ∈ sn_gw := sn_gwI (lb_3 (lt_16 (lt_16 (lt_16 (lt_16 (lt_16 (lt_16 (lt_16 (lt_2 lt_h))))))))) gw_static
theorem kl_RX1_38 : sn_LS RX1 38 yJ7_fill_d0a16 cJ7_fill_d0a16 5 none 2 := ⟨sn_ls4 km_RX1_38 kst_J7_fill_d0a16 ki_RJ7 kc_J7_fill_d0a16, kva_4, kvb_4, kpd_31⟩
theorem km_RX2_30 : Cond.methodLink RX2 30 yJ7_fill_53178 ∈ sn_gw := sn_gwI (lb_1 (lt_16 (lt_16 (lt_16 (lt_16 (lt_16 (lt_16 (lt_13 lt_h)))))))) gw_methodLink
theorem kl_RX2_30 : sn_LS RX2 30 yJ7_fill_53178 cJ7_fill_53178 4 none 2 := ⟨sn_ls4 km_RX2_30 kst_J7_fill_53178 ki_RJ7 kc_J7_fill_53178, kva_4, kvb_4, kpd_29⟩
theorem kf_RX2_15 : Cond.fieldLink RX2 15 (TX2 1).1 (TX2 1).2.1 (TX2 1).2.2.1 ∈ sn_gw := sn_gwI (lb_0 (lt_16 (lt_16 (lt_7 lt_h)))) gw_fieldLink
theorem fd_RX2_15 : sn_Fd RX2 15 2 1 := ⟨RX2, TX2, 6, rfl, ug_X2, by decide, kf_RX2_15⟩
theorem kf_RX2_18 : Cond.fieldLink RX2 18 (TX2 2).1 (TX2 2).2.1 (TX2 2).2.2.1 ∈ sn_gw := sn_gwI (lb_0 (lt_16 (lt_16 (lt_11 lt_h)))) gw_fieldLink
theorem fd_RX2_18 : sn_Fd RX2 18 2 2 := ⟨RX2, TX2, 6, rfl, ug_X2, by decide, kf_RX2_18⟩
theorem kf_RX2_21 : Cond.fieldLink RX2 21 (TX2 3).1 (TX2 3).2.1 (TX2 3).2.2.1 ∈ sn_gw := sn_gwI (lb_0 (lt_16 (lt_16 (lt_14 lt_h)))) gw_fieldLink
theorem fd_RX2_21 : sn_Fd RX2 21 2 3 := ⟨RX2, TX2, 6, rfl, ug_X2, by decide, kf_RX2_21⟩
theorem km_RX2_36 : Cond.methodLink RX2 36 arraycopyName ∈ sn_gw := sn_gwI (lb_1 (lt_16 (lt_16 (lt_16 (lt_16 (lt_16 (lt_16 (lt_16 (lt_16 (lt_16 (lt_16 (lt_16 (lt_16 (lt_16 (lt_16 (lt_14 lt_h)))))))))))))))) gw_methodLink
theorem kc_X2_window : Cond.code yX2_window cX2_window 3 (some .int) ∈ sn_gw := sn_gwI (lb_2 (lt_16 (lt_16 (lt_16 (lt_16 (lt_16 (lt_16 (lt_16 (lt_16 (lt_16 (lt_16 (lt_16 (lt_1 lt_h))))))))))))) gw_code
theorem km_RX3_54 : Cond.methodLink RX3 54 yX2_window ∈ sn_gw := sn_gwI (lb_3 (lt_6 lt_h)) gw_methodLink
theorem kin_X2_window : Cond.instanceMethod yX2_window ∈ sn_gw := sn_gwI (lb_2 (lt_16 (lt_16 (lt_16 (lt_16 (lt_16 (lt_16 (lt_16 (lt_16 (lt_16 (lt_16 (lt_15 lt_h)))))))))))) gw_instanceMethod
theorem ks_X2_window : Cond.selects RX2 yX2_window yX2_window ∈ sn_gw := sn_gwI (lb_2 (lt_16 (lt_16 (lt_16 (lt_16 (lt_16 (lt_16 (lt_16 (lt_16 (lt_16 (lt_16 (lt_16 lt_h)))))))))))) gw_selects
theorem kl_RX3_54 : sn_LV RX3 54 yX2_window cX2_window 3 (some .int) 1 := ⟨sn_lv5 km_RX3_54 kin_X2_window ks_X2_window ki_RX2 kc_X2_window, kva_5, kvb_5, kpd_6⟩
theorem kc_X2_gustMinutes : Cond.code yX2_gustMinutes cX2_gustMinutes 3 (some .int) ∈ sn_gw := sn_gwI (lb_3 (lt_10 lt_h)) gw_code
theorem km_RX3_57 : Cond.methodLink RX3 57 yX2_gustMinutes ∈ sn_gw := sn_gwI (lb_3 (lt_7 lt_h)) gw_methodLink
theorem kin_X2_gustMinutes : Cond.instanceMethod yX2_gustMinutes ∈ sn_gw := sn_gwI (lb_3 (lt_8 lt_h)) gw_instanceMethod
theorem ks_X2_gustMinutes : Cond.selects RX2 yX2_gustMinutes yX2_gustMinutes ∈ sn_gw := sn_gwI (lb_3 (lt_9 lt_h)) gw_selects
theorem kl_RX3_57 : sn_LV RX3 57 yX2_gustMinutes cX2_gustMinutes 3 (some .int) 0 := ⟨sn_lv5 km_RX3_57 kin_X2_gustMinutes ks_X2_gustMinutes ki_RX2 kc_X2_gustMinutes, kva_5, kvb_5, kpd_7⟩
theorem km_RX8_165 : Cond.methodLink RX8 165 yJ6_bitCount_0f7a4 ∈ sn_gw := sn_gwI (lb_2 (lt_16 (lt_16 (lt_16 (lt_16 (lt_16 (lt_16 (lt_1 lt_h)))))))) gw_methodLink
theorem kl_RX8_165 : sn_LS RX8 165 yJ6_bitCount_0f7a4 cJ6_bitCount_0f7a4 1 (some .int) 1 := ⟨sn_ls4 km_RX8_165 kst_J6_bitCount_0f7a4 ki_RJ6 kc_J6_bitCount_0f7a4, kva_8, kvb_8, kpd_6⟩
theorem kc_X3_counting : Cond.code yX3_counting cX3_counting 5 (some .int) ∈ sn_gw := sn_gwI (lb_3 (lt_5 lt_h)) gw_code
theorem km_RX3_46 : Cond.methodLink RX3 46 yX3_counting ∈ sn_gw := sn_gwI (lb_3 (lt_3 lt_h)) gw_methodLink
theorem kst_X3_counting : Cond.static yX3_counting ∈ sn_gw := sn_gwI (lb_3 (lt_4 lt_h)) gw_static
theorem ki_RX3 : Cond.initialized RX3 ∈ sn_gw := sn_gwI (lb_0 (lt_7 lt_h)) gw_initialized
theorem kl_RX3_46 : sn_LS RX3 46 yX3_counting cX3_counting 5 (some .int) 4 := ⟨sn_ls4 km_RX3_46 kst_X3_counting ki_RX3 kc_X3_counting, kva_10, kvb_10, kpd_32⟩
theorem km_RX3_30 : Cond.methodLink RX3 30 yX2_ofPolicy ∈ sn_gw := sn_gwI (lb_2 (lt_16 (lt_16 (lt_16 (lt_16 (lt_16 (lt_16 (lt_16 (lt_16 (lt_16 (lt_16 (lt_16 (lt_16 (lt_16 (lt_16 (lt_15 lt_h)))))))))))))))) gw_methodLink
theorem kl_RX3_30 : sn_LV RX3 30 yX2_ofPolicy cX2_ofPolicy 3 (some .int) 2 := ⟨sn_lv5 km_RX3_30 kin_X2_ofPolicy ks_X2_ofPolicy ki_RX2 kc_X2_ofPolicy, kva_5, kvb_5, kpd_13⟩
theorem kc_X8_lowestBit : Cond.code yX8_lowestBit cX8_lowestBit 1 (some .int) ∈ sn_gw := sn_gwI (lb_2 (lt_16 (lt_16 (lt_16 (lt_16 (lt_16 (lt_16 lt_h))))))) gw_code
theorem kst_X8_lowestBit : Cond.static yX8_lowestBit ∈ sn_gw := sn_gwI (lb_2 (lt_16 (lt_16 (lt_16 (lt_16 (lt_16 (lt_15 lt_h))))))) gw_static
theorem kl_RX3_50 : sn_LN RX3 50 yX8_lowestBit RX8 cX8_lowestBit 1 (some .int) 1 := ⟨sn_cg kc_X8_lowestBit, (List.mem_of_getElem? (i := 11) rfl), kst_X8_lowestBit, ki_RX8, kva_6, kvb_6, kpd_6⟩
theorem kl_RX3_71 : sn_LN RX3 71 yX8_firstMinutes RX8 cX8_firstMinutes 1 (some .int) 1 := ⟨sn_cg kc_X8_firstMinutes, (List.mem_of_getElem? (i := 12) rfl), kst_X8_firstMinutes, ki_RX8, kva_6, kvb_6, kpd_6⟩
theorem km_RX3_61 : Cond.methodLink RX3 61 yJ6_bitCount_0f7a4 ∈ sn_gw := sn_gwI (lb_3 (lt_11 lt_h)) gw_methodLink
theorem kl_RX3_61 : sn_LS RX3 61 yJ6_bitCount_0f7a4 cJ6_bitCount_0f7a4 1 (some .int) 1 := ⟨sn_ls4 km_RX3_61 kst_J6_bitCount_0f7a4 ki_RJ6 kc_J6_bitCount_0f7a4, kva_8, kvb_8, kpd_6⟩
theorem km_RX3_66 : Cond.methodLink RX3 66 Lib.Math.min.name ∈ sn_gw := sn_gwI (lb_3 (lt_12 lt_h)) gw_methodLink
theorem kf_RX3_18 : Cond.fieldLink RX3 18 (TX2 0).1 (TX2 0).2.1 (TX2 0).2.2.1 ∈ sn_gw := sn_gwI (lb_0 (lt_16 (lt_16 (lt_3 lt_h)))) gw_fieldLink
theorem fd_RX3_18 : sn_Fd RX3 18 2 0 := ⟨RX2, TX2, 6, rfl, ug_X2, by decide, kf_RX3_18⟩
theorem kf_RX3_23 : Cond.fieldLink RX3 23 (TX3 2).1 (TX3 2).2.1 (TX3 2).2.2.1 ∈ sn_gw := sn_gwI (lb_0 (lt_16 (lt_16 (lt_16 (lt_16 (lt_16 (lt_16 (lt_16 (lt_16 (lt_16 (lt_16 (lt_16 (lt_16 (lt_16 (lt_1 lt_h))))))))))))))) gw_fieldLink
theorem fd_RX3_23 : sn_Fd RX3 23 3 2 := ⟨RX3, TX3, 4, rfl, ug_X3, by decide, kf_RX3_23⟩
theorem kf_RX3_34 : Cond.fieldLink RX3 34 (TX0 13).1 (TX0 13).2.1 (TX0 13).2.2.1 ∈ sn_gw := sn_gwI (lb_0 (lt_16 (lt_16 (lt_16 (lt_16 (lt_16 (lt_16 (lt_16 (lt_16 (lt_16 (lt_16 (lt_5 lt_h)))))))))))) gw_fieldLink
theorem fd_RX3_34 : sn_Fd RX3 34 0 13 := ⟨RX0, TX0, 14, rfl, ug_X0, by decide, kf_RX3_34⟩
theorem kf_RX3_27 : Cond.fieldLink RX3 27 (TX3 3).1 (TX3 3).2.1 (TX3 3).2.2.1 ∈ sn_gw := sn_gwI (lb_0 (lt_16 (lt_16 (lt_16 (lt_16 (lt_16 (lt_16 (lt_16 (lt_16 (lt_16 (lt_16 (lt_16 (lt_16 (lt_16 (lt_3 lt_h))))))))))))))) gw_fieldLink
theorem fd_RX3_27 : sn_Fd RX3 27 3 3 := ⟨RX3, TX3, 4, rfl, ug_X3, by decide, kf_RX3_27⟩
theorem kf_RX3_9 : Cond.fieldLink RX3 9 (TX3 0).1 (TX3 0).2.1 (TX3 0).2.2.1 ∈ sn_gw := sn_gwI (lb_0 (lt_16 (lt_16 (lt_16 (lt_16 (lt_16 (lt_16 (lt_16 (lt_16 (lt_16 (lt_16 (lt_16 (lt_16 (lt_12 lt_h)))))))))))))) gw_fieldLink
theorem fd_RX3_9 : sn_Fd RX3 9 3 0 := ⟨RX3, TX3, 4, rfl, ug_X3, by decide, kf_RX3_9⟩
theorem kf_RX3_39 : Cond.fieldLink RX3 39 (TX0 7).1 (TX0 7).2.1 (TX0 7).2.2.1 ∈ sn_gw := sn_gwI (lb_0 (lt_16 (lt_16 (lt_16 (lt_16 (lt_16 (lt_16 (lt_16 (lt_16 (lt_16 (lt_11 lt_h))))))))))) gw_fieldLink
theorem fd_RX3_39 : sn_Fd RX3 39 0 7 := ⟨RX0, TX0, 14, rfl, ug_X0, by decide, kf_RX3_39⟩
theorem kf_RX3_15 : Cond.fieldLink RX3 15 (TX3 1).1 (TX3 1).2.1 (TX3 1).2.2.1 ∈ sn_gw := sn_gwI (lb_0 (lt_16 (lt_16 (lt_16 (lt_16 (lt_16 (lt_16 (lt_16 (lt_16 (lt_16 (lt_16 (lt_16 (lt_16 (lt_15 lt_h)))))))))))))) gw_fieldLink
theorem fd_RX3_15 : sn_Fd RX3 15 3 1 := ⟨RX3, TX3, 4, rfl, ug_X3, by decide, kf_RX3_15⟩
theorem fp_RX3_27 : sn_Fp RX3 27 3 3 .int := ⟨RX3, TX3, 4, tyX3, rfl, ug_X3, by decide, kf_RX3_27, tyX3_ok, nmX3, rfl, tyX3_ok 3 (by decide)⟩
theorem kc_X3_claimBy : Cond.code yX3_claimBy cX3_claimBy 8 (some .int) ∈ sn_gw := sn_gwI (lb_3 (lt_2 lt_h)) gw_code
theorem km_RX3_42 : Cond.methodLink RX3 42 yX3_claimBy ∈ sn_gw := sn_gwI (lb_3 lt_h) gw_methodLink
theorem kst_X3_claimBy : Cond.static yX3_claimBy ∈ sn_gw := sn_gwI (lb_3 (lt_1 lt_h)) gw_static
theorem kl_RX3_42 : sn_LS RX3 42 yX3_claimBy cX3_claimBy 8 (some .int) 5 := ⟨sn_ls4 km_RX3_42 kst_X3_claimBy ki_RX3 kc_X3_claimBy, kva_10, kvb_10, kpd_33⟩
theorem fp_RX3_23 : sn_Fp RX3 23 3 2 .int := ⟨RX3, TX3, 4, tyX3, rfl, ug_X3, by decide, kf_RX3_23, tyX3_ok, nmX3, rfl, tyX3_ok 2 (by decide)⟩
theorem kc_X3_moneyAt : Cond.code yX3_moneyAt cX3_moneyAt 4 (some .int) ∈ sn_gw := sn_gwI (lb_3 (lt_16 (lt_16 (lt_3 lt_h)))) gw_code
theorem km_RX3_74 : Cond.methodLink RX3 74 yX3_moneyAt ∈ sn_gw := sn_gwI (lb_3 (lt_16 (lt_16 (lt_12 lt_h)))) gw_methodLink
theorem kin_X3_moneyAt : Cond.instanceMethod yX3_moneyAt ∈ sn_gw := sn_gwI (lb_3 (lt_16 (lt_16 (lt_1 lt_h)))) gw_instanceMethod
theorem ks_X3_moneyAt : Cond.selects RX3 yX3_moneyAt yX3_moneyAt ∈ sn_gw := sn_gwI (lb_3 (lt_16 (lt_16 (lt_2 lt_h)))) gw_selects
theorem kl_RX3_74 : sn_LV RX3 74 yX3_moneyAt cX3_moneyAt 4 (some .int) 1 := ⟨sn_lv5 km_RX3_74 kin_X3_moneyAt ks_X3_moneyAt ki_RX3 kc_X3_moneyAt, kva_10, kvb_10, kpd_6⟩
theorem kf_RX4_9 : Cond.fieldLink RX4 9 (TX4 2).1 (TX4 2).2.1 (TX4 2).2.2.1 ∈ sn_gw := sn_gwI (lb_1 (lt_16 (lt_16 (lt_2 lt_h)))) gw_fieldLink
theorem fd_RX4_9 : sn_Fd RX4 9 4 2 := ⟨RX4, TX4, 5, rfl, ug_X4, by decide, kf_RX4_9⟩
theorem kf_RX4_25 : Cond.fieldLink RX4 25 (TX4 4).1 (TX4 4).2.1 (TX4 4).2.2.1 ∈ sn_gw := sn_gwI (lb_1 (lt_16 (lt_16 (lt_4 lt_h)))) gw_fieldLink
theorem fd_RX4_25 : sn_Fd RX4 25 4 4 := ⟨RX4, TX4, 5, rfl, ug_X4, by decide, kf_RX4_25⟩
theorem kf_RX4_18 : Cond.fieldLink RX4 18 (TX4 3).1 (TX4 3).2.1 (TX4 3).2.2.1 ∈ sn_gw := sn_gwI (lb_1 (lt_16 (lt_16 (lt_3 lt_h)))) gw_fieldLink
theorem fd_RX4_18 : sn_Fd RX4 18 4 3 := ⟨RX4, TX4, 5, rfl, ug_X4, by decide, kf_RX4_18⟩
theorem kf_RX4_29 : Cond.fieldLink RX4 29 (TX2 0).1 (TX2 0).2.1 (TX2 0).2.2.1 ∈ sn_gw := sn_gwI (lb_0 (lt_16 (lt_16 (lt_4 lt_h)))) gw_fieldLink
theorem fd_RX4_29 : sn_Fd RX4 29 2 0 := ⟨RX2, TX2, 6, rfl, ug_X2, by decide, kf_RX4_29⟩
theorem kf_RX4_89 : Cond.fieldLink RX4 89 (TX3 0).1 (TX3 0).2.1 (TX3 0).2.2.1 ∈ sn_gw := sn_gwI (lb_0 (lt_16 (lt_16 (lt_16 (lt_16 (lt_16 (lt_16 (lt_16 (lt_16 (lt_16 (lt_16 (lt_16 (lt_16 (lt_13 lt_h)))))))))))))) gw_fieldLink
theorem fd_RX4_89 : sn_Fd RX4 89 3 0 := ⟨RX3, TX3, 4, rfl, ug_X3, by decide, kf_RX4_89⟩
theorem kf_RX4_82 : Cond.fieldLink RX4 82 (TX0 13).1 (TX0 13).2.1 (TX0 13).2.2.1 ∈ sn_gw := sn_gwI (lb_0 (lt_16 (lt_16 (lt_16 (lt_16 (lt_16 (lt_16 (lt_16 (lt_16 (lt_16 (lt_16 (lt_6 lt_h)))))))))))) gw_fieldLink
theorem fd_RX4_82 : sn_Fd RX4 82 0 13 := ⟨RX0, TX0, 14, rfl, ug_X0, by decide, kf_RX4_82⟩
theorem kc_X3_reckon : Cond.code yX3_reckon cX3_reckon 7 none ∈ sn_gw := sn_gwI (lb_2 (lt_16 (lt_16 (lt_16 (lt_16 (lt_16 (lt_16 (lt_16 (lt_16 (lt_16 (lt_16 (lt_16 (lt_16 (lt_16 (lt_16 (lt_14 lt_h)))))))))))))))) gw_code
theorem km_RX4_85 : Cond.methodLink RX4 85 yX3_reckon ∈ sn_gw := sn_gwI (lb_4 (lt_10 lt_h)) gw_methodLink
theorem kin_X3_reckon : Cond.instanceMethod yX3_reckon ∈ sn_gw := sn_gwI (lb_2 (lt_16 (lt_16 (lt_16 (lt_16 (lt_16 (lt_16 (lt_16 (lt_16 (lt_16 (lt_16 (lt_16 (lt_16 (lt_16 (lt_16 (lt_12 lt_h)))))))))))))))) gw_instanceMethod
theorem ks_X3_reckon : Cond.selects RX3 yX3_reckon yX3_reckon ∈ sn_gw := sn_gwI (lb_2 (lt_16 (lt_16 (lt_16 (lt_16 (lt_16 (lt_16 (lt_16 (lt_16 (lt_16 (lt_16 (lt_16 (lt_16 (lt_16 (lt_16 (lt_13 lt_h)))))))))))))))) gw_selects
theorem kl_RX4_85 : sn_LV RX4 85 yX3_reckon cX3_reckon 7 none 3 := ⟨sn_lv5 km_RX4_85 kin_X3_reckon ks_X3_reckon ki_RX3 kc_X3_reckon, kva_10, kvb_10, kpd_34⟩
theorem kc_X3_firstBelow : Cond.code yX3_firstBelow cX3_firstBelow 3 (some .int) ∈ sn_gw := sn_gwI (lb_3 (lt_16 (lt_16 (lt_16 (lt_4 lt_h))))) gw_code
theorem km_RX4_92 : Cond.methodLink RX4 92 yX3_firstBelow ∈ sn_gw := sn_gwI (lb_4 (lt_11 lt_h)) gw_methodLink
theorem kin_X3_firstBelow : Cond.instanceMethod yX3_firstBelow ∈ sn_gw := sn_gwI (lb_3 (lt_16 (lt_16 (lt_16 (lt_2 lt_h))))) gw_instanceMethod
theorem ks_X3_firstBelow : Cond.selects RX3 yX3_firstBelow yX3_firstBelow ∈ sn_gw := sn_gwI (lb_3 (lt_16 (lt_16 (lt_16 (lt_3 lt_h))))) gw_selects
theorem kl_RX4_92 : sn_LV RX4 92 yX3_firstBelow cX3_firstBelow 3 (some .int) 1 := ⟨sn_lv5 km_RX4_92 kin_X3_firstBelow ks_X3_firstBelow ki_RX3 kc_X3_firstBelow, kva_10, kvb_10, kpd_6⟩
theorem kf_RX4_43 : Cond.fieldLink RX4 43 (TX4 0).1 (TX4 0).2.1 (TX4 0).2.2.1 ∈ sn_gw := sn_gwI (lb_1 (lt_16 (lt_14 lt_h))) gw_fieldLink
theorem fd_RX4_43 : sn_Fd RX4 43 4 0 := ⟨RX4, TX4, 5, rfl, ug_X4, by decide, kf_RX4_43⟩
theorem kf_RX4_74 : Cond.fieldLink RX4 74 (TX4 1).1 (TX4 1).2.1 (TX4 1).2.2.1 ∈ sn_gw := sn_gwI (lb_1 (lt_16 (lt_16 lt_h))) gw_fieldLink
theorem fd_RX4_74 : sn_Fd RX4 74 4 1 := ⟨RX4, TX4, 5, rfl, ug_X4, by decide, kf_RX4_74⟩
theorem fp_RX4_43 : sn_Fp RX4 43 4 0 .long := ⟨RX4, TX4, 5, tyX4, rfl, ug_X4, by decide, kf_RX4_43, tyX4_ok, nmX4, rfl, tyX4_ok 0 (by decide)⟩
theorem fp_RX4_74 : sn_Fp RX4 74 4 1 .long := ⟨RX4, TX4, 5, tyX4, rfl, ug_X4, by decide, kf_RX4_74, tyX4_ok, nmX4, rfl, tyX4_ok 1 (by decide)⟩
theorem kf_RX4_51 : Cond.fieldLink RX4 51 (TX0 4).1 (TX0 4).2.1 (TX0 4).2.2.1 ∈ sn_gw := sn_gwI (lb_0 (lt_16 (lt_16 (lt_16 (lt_16 (lt_16 (lt_16 (lt_16 (lt_16 (lt_16 (lt_2 lt_h))))))))))) gw_fieldLink
theorem fd_RX4_51 : sn_Fd RX4 51 0 4 := ⟨RX0, TX0, 14, rfl, ug_X0, by decide, kf_RX4_51⟩
theorem kf_RX4_58 : Cond.fieldLink RX4 58 (TX0 0).1 (TX0 0).2.1 (TX0 0).2.2.1 ∈ sn_gw := sn_gwI (lb_0 (lt_16 (lt_16 (lt_16 (lt_16 (lt_16 (lt_16 (lt_16 (lt_16 (lt_8 lt_h)))))))))) gw_fieldLink
theorem fd_RX4_58 : sn_Fd RX4 58 0 0 := ⟨RX0, TX0, 14, rfl, ug_X0, by decide, kf_RX4_58⟩
theorem kk_RX4_77 : Cond.constantLong RX4 77 (10) ∈ sn_gw := sn_gwI (lb_4 (lt_12 lt_h)) rfl
theorem kc_X4_lower : Cond.code yX4_lower cX4_lower 8 none ∈ sn_gw := sn_gwI (lb_4 (lt_16 lt_h)) gw_code
theorem km_RX4_79 : Cond.methodLink RX4 79 yX4_lower ∈ sn_gw := sn_gwI (lb_4 (lt_13 lt_h)) gw_methodLink
theorem kin_X4_lower : Cond.instanceMethod yX4_lower ∈ sn_gw := sn_gwI (lb_4 (lt_15 lt_h)) gw_instanceMethod
theorem ks_X4_lower : Cond.selects RX4 yX4_lower yX4_lower ∈ sn_gw := sn_gwS (q := (yX4_lower, 5)) (List.mem_of_getElem? (i := 39) rfl) gw_selects
theorem ki_RX4 : Cond.initialized RX4 ∈ sn_gw := sn_gwI (lb_0 (lt_10 lt_h)) gw_initialized
theorem kl_RX4_79 : sn_LV RX4 79 yX4_lower cX4_lower 8 none 0 := ⟨sn_lv5 km_RX4_79 kin_X4_lower ks_X4_lower ki_RX4 kc_X4_lower, kva_11, kvb_11, kpd_10⟩
theorem km_RX4_62 : Cond.methodLink RX4 62 yX0_live ∈ sn_gw := sn_gwI (lb_4 (lt_4 lt_h)) gw_methodLink
theorem kl_RX4_62 : sn_LV RX4 62 yX0_live cX0_live 4 none 2 := ⟨sn_lv5 km_RX4_62 kin_X0_live ks_X0_live ki_RX0 kc_X0_live, kva_7, kvb_7, kpd_3⟩
theorem km_RX4_65 : Cond.methodLink RX4 65 yJ6_bitCount_0f7a4 ∈ sn_gw := sn_gwI (lb_4 (lt_5 lt_h)) gw_methodLink
theorem kl_RX4_65 : sn_LS RX4 65 yJ6_bitCount_0f7a4 cJ6_bitCount_0f7a4 1 (some .int) 1 := ⟨sn_ls4 km_RX4_65 kst_J6_bitCount_0f7a4 ki_RJ6 kc_J6_bitCount_0f7a4, kva_8, kvb_8, kpd_6⟩
theorem kc_X4_worth : Cond.code yX4_worth cX4_worth 5 (some .long) ∈ sn_gw := sn_gwI (lb_4 (lt_9 lt_h)) gw_code
theorem km_RX4_70 : Cond.methodLink RX4 70 yX4_worth ∈ sn_gw := sn_gwI (lb_4 (lt_6 lt_h)) gw_methodLink
theorem kin_X4_worth : Cond.instanceMethod yX4_worth ∈ sn_gw := sn_gwI (lb_4 (lt_8 lt_h)) gw_instanceMethod
theorem ks_X4_worth : Cond.selects RX4 yX4_worth yX4_worth ∈ sn_gw := sn_gwS (q := (yX4_worth, 5)) (List.mem_of_getElem? (i := 38) rfl) gw_selects
theorem kl_RX4_70 : sn_LV RX4 70 yX4_worth cX4_worth 5 (some .long) 4 := ⟨sn_lv5 km_RX4_70 kin_X4_worth ks_X4_worth ki_RX4 kc_X4_worth, kva_11, kvb_11, kpd_35⟩
theorem kl_RX4_54 : sn_LN RX4 54 yX8_hasBit RX8 cX8_hasBit 2 (some .boolean) 2 := ⟨sn_cg kc_X8_hasBit, (List.mem_of_getElem? (i := 15) rfl), kst_X8_hasBit, ki_RX8, kva_6, kvb_6, kpd_20⟩
theorem kl_RX4_47 : sn_LN RX4 47 yX8_lowestBit RX8 cX8_lowestBit 1 (some .int) 1 := ⟨sn_cg kc_X8_lowestBit, (List.mem_of_getElem? (i := 14) rfl), kst_X8_lowestBit, ki_RX8, kva_6, kvb_6, kpd_6⟩
theorem kc_X4_weigh : Cond.code yX4_weigh cX4_weigh 7 none ∈ sn_gw := sn_gwI (lb_4 lt_h) gw_code
theorem km_RX4_35 : Cond.methodLink RX4 35 yX4_weigh ∈ sn_gw := sn_gwI (lb_3 (lt_16 (lt_16 (lt_16 (lt_16 (lt_16 (lt_16 (lt_16 (lt_16 (lt_16 (lt_16 (lt_16 (lt_16 (lt_16 (lt_16 (lt_13 lt_h)))))))))))))))) gw_methodLink
theorem kin_X4_weigh : Cond.instanceMethod yX4_weigh ∈ sn_gw := sn_gwI (lb_3 (lt_16 (lt_16 (lt_16 (lt_16 (lt_16 (lt_16 (lt_16 (lt_16 (lt_16 (lt_16 (lt_16 (lt_16 (lt_16 (lt_16 (lt_15 lt_h)))))))))))))))) gw_instanceMethod
theorem ks_X4_weigh : Cond.selects RX4 yX4_weigh yX4_weigh ∈ sn_gw := sn_gwS (q := (yX4_weigh, 5)) (List.mem_of_getElem? (i := 37) rfl) gw_selects
theorem kl_RX4_35 : sn_LV RX4 35 yX4_weigh cX4_weigh 7 none 2 := ⟨sn_lv5 km_RX4_35 kin_X4_weigh ks_X4_weigh ki_RX4 kc_X4_weigh, kva_11, kvb_11, kpd_3⟩
theorem kc_X0_copyFrom : Cond.code yX0_copyFrom cX0_copyFrom 2 none ∈ sn_gw := sn_gwI (lb_2 (lt_16 (lt_16 (lt_16 (lt_16 (lt_16 (lt_16 (lt_16 (lt_16 (lt_16 (lt_16 (lt_16 (lt_16 (lt_1 lt_h)))))))))))))) gw_code
theorem km_RX4_39 : Cond.methodLink RX4 39 yX0_copyFrom ∈ sn_gw := sn_gwI (lb_4 (lt_1 lt_h)) gw_methodLink
theorem kin_X0_copyFrom : Cond.instanceMethod yX0_copyFrom ∈ sn_gw := sn_gwI (lb_2 (lt_16 (lt_16 (lt_16 (lt_16 (lt_16 (lt_16 (lt_16 (lt_16 (lt_16 (lt_16 (lt_16 (lt_15 lt_h))))))))))))) gw_instanceMethod
theorem ks_X0_copyFrom : Cond.selects RX0 yX0_copyFrom yX0_copyFrom ∈ sn_gw := sn_gwI (lb_2 (lt_16 (lt_16 (lt_16 (lt_16 (lt_16 (lt_16 (lt_16 (lt_16 (lt_16 (lt_16 (lt_16 (lt_16 lt_h))))))))))))) gw_selects
theorem kl_RX4_39 : sn_LV RX4 39 yX0_copyFrom cX0_copyFrom 2 none 1 := ⟨sn_lv5 km_RX4_39 kin_X0_copyFrom ks_X0_copyFrom ki_RX0 kc_X0_copyFrom, kva_7, kvb_7, kpd_36⟩
theorem kf_RX5_19 : Cond.fieldLink RX5 19 (TX5 1).1 (TX5 1).2.1 (TX5 1).2.2.1 ∈ sn_gw := sn_gwI (lb_0 (lt_16 (lt_16 (lt_16 (lt_16 (lt_12 lt_h)))))) gw_fieldLink
theorem fd_RX5_19 : sn_Fd RX5 19 5 1 := ⟨RX5, TX5, 8, rfl, ug_X5, by decide, kf_RX5_19⟩
theorem kf_RX5_9 : Cond.fieldLink RX5 9 (TX5 0).1 (TX5 0).2.1 (TX5 0).2.2.1 ∈ sn_gw := sn_gwI (lb_0 (lt_16 (lt_16 (lt_16 (lt_16 (lt_10 lt_h)))))) gw_fieldLink
theorem fd_RX5_9 : sn_Fd RX5 9 5 0 := ⟨RX5, TX5, 8, rfl, ug_X5, by decide, kf_RX5_9⟩
theorem fp_RX5_19 : sn_Fp RX5 19 5 1 .int := ⟨RX5, TX5, 8, tyX5, rfl, ug_X5, by decide, kf_RX5_19, tyX5_ok, nmX5, rfl, tyX5_ok 1 (by decide)⟩
theorem kf_RX5_34 : Cond.fieldLink RX5 34 (TX5 5).1 (TX5 5).2.1 (TX5 5).2.2.1 ∈ sn_gw := sn_gwI (lb_0 (lt_16 (lt_16 (lt_16 (lt_16 (lt_16 (lt_2 lt_h))))))) gw_fieldLink
theorem fd_RX5_34 : sn_Fd RX5 34 5 5 := ⟨RX5, TX5, 8, rfl, ug_X5, by decide, kf_RX5_34⟩
theorem kf_RX5_131 : Cond.fieldLink RX5 131 (TX5 4).1 (TX5 4).2.1 (TX5 4).2.2.1 ∈ sn_gw := sn_gwI (lb_0 (lt_16 (lt_16 (lt_16 (lt_16 (lt_16 (lt_1 lt_h))))))) gw_fieldLink
theorem fd_RX5_131 : sn_Fd RX5 131 5 4 := ⟨RX5, TX5, 8, rfl, ug_X5, by decide, kf_RX5_131⟩
theorem kf_RX5_40 : Cond.fieldLink RX5 40 (TX5 6).1 (TX5 6).2.1 (TX5 6).2.2.1 ∈ sn_gw := sn_gwI (lb_0 (lt_16 (lt_16 (lt_16 (lt_16 (lt_16 (lt_3 lt_h))))))) gw_fieldLink
theorem fd_RX5_40 : sn_Fd RX5 40 5 6 := ⟨RX5, TX5, 8, rfl, ug_X5, by decide, kf_RX5_40⟩
theorem kc_X5_kindAt : Cond.code yX5_kindAt cX5_kindAt 3 (some .int) ∈ sn_gw := sn_gwI (lb_1 (lt_16 (lt_16 (lt_16 (lt_16 (lt_16 (lt_16 (lt_16 (lt_5 lt_h))))))))) gw_code
theorem km_RX5_148 : Cond.methodLink RX5 148 yX5_kindAt ∈ sn_gw := sn_gwI (lb_1 (lt_16 (lt_16 (lt_16 (lt_16 (lt_16 (lt_16 (lt_16 (lt_2 lt_h))))))))) gw_methodLink
theorem kin_X5_kindAt : Cond.instanceMethod yX5_kindAt ∈ sn_gw := sn_gwI (lb_1 (lt_16 (lt_16 (lt_16 (lt_16 (lt_16 (lt_16 (lt_16 (lt_4 lt_h))))))))) gw_instanceMethod
theorem ks_X5_kindAt : Cond.selects RX5 yX5_kindAt yX5_kindAt ∈ sn_gw := sn_gwS (q := (yX5_kindAt, 8)) (List.mem_of_getElem? (i := 1) rfl) gw_selects
theorem ki_RX5 : Cond.initialized RX5 ∈ sn_gw := sn_gwI (lb_0 (lt_3 lt_h)) gw_initialized
theorem kl_RX5_148 : sn_LV RX5 148 yX5_kindAt cX5_kindAt 3 (some .int) 1 := ⟨sn_lv5 km_RX5_148 kin_X5_kindAt ks_X5_kindAt ki_RX5 kc_X5_kindAt, kva_12, kvb_12, kpd_6⟩
theorem fp_RX5_34 : sn_Fp RX5 34 5 5 .int := ⟨RX5, TX5, 8, tyX5, rfl, ug_X5, by decide, kf_RX5_34, tyX5_ok, nmX5, rfl, tyX5_ok 5 (by decide)⟩
theorem fp_RX5_40 : sn_Fp RX5 40 5 6 .int := ⟨RX5, TX5, 8, tyX5, rfl, ug_X5, by decide, kf_RX5_40, tyX5_ok, nmX5, rfl, tyX5_ok 6 (by decide)⟩
theorem km_RX5_134 : Cond.methodLink RX5 134 Lib.Math.min.name ∈ sn_gw := sn_gwI (lb_1 (lt_16 (lt_16 (lt_16 (lt_16 (lt_16 (lt_16 (lt_16 (lt_6 lt_h))))))))) gw_methodLink
theorem fp_RX5_131 : sn_Fp RX5 131 5 4 .int := ⟨RX5, TX5, 8, tyX5, rfl, ug_X5, by decide, kf_RX5_131, tyX5_ok, nmX5, rfl, tyX5_ok 4 (by decide)⟩
theorem km_RX5_144 : Cond.methodLink RX5 144 yJ0_charAt_5068e ∈ sn_gw := sn_gwI (lb_1 (lt_16 (lt_16 (lt_16 (lt_16 (lt_16 (lt_16 (lt_16 (lt_16 (lt_16 lt_h)))))))))) gw_methodLink
theorem kl_RX5_144 : sn_LV RX5 144 yJ0_charAt_5068e cJ0_charAt_5068e 2 (some .char) 1 := ⟨sn_lv5 km_RX5_144 kin_J0_charAt_5068e ks_J0_charAt_5068e ki_RJ0 kc_J0_charAt_5068e, kva_0, kvb_0, kpd_8⟩
theorem km_RX5_140 : Cond.methodLink RX5 140 yJ0_length_8abf5 ∈ sn_gw := sn_gwI (lb_1 (lt_16 (lt_16 (lt_16 (lt_16 (lt_16 (lt_16 (lt_16 (lt_16 (lt_6 lt_h)))))))))) gw_methodLink
theorem kl_RX5_140 : sn_LV RX5 140 yJ0_length_8abf5 cJ0_length_8abf5 1 (some .int) 0 := ⟨sn_lv5 km_RX5_140 kin_J0_length_8abf5 ks_J0_length_8abf5 ki_RJ0 kc_J0_length_8abf5, kva_0, kvb_0, kpd_7⟩
theorem kf_RX5_31 : Cond.fieldLink RX5 31 (TX5 2).1 (TX5 2).2.1 (TX5 2).2.2.1 ∈ sn_gw := sn_gwI (lb_0 (lt_16 (lt_16 (lt_16 (lt_16 (lt_13 lt_h)))))) gw_fieldLink
theorem fd_RX5_31 : sn_Fd RX5 31 5 2 := ⟨RX5, TX5, 8, rfl, ug_X5, by decide, kf_RX5_31⟩
theorem fp_RX5_31 : sn_Fp RX5 31 5 2 .int := ⟨RX5, TX5, 8, tyX5, rfl, ug_X5, by decide, kf_RX5_31, tyX5_ok, nmX5, rfl, tyX5_ok 2 (by decide)⟩
theorem kf_RX5_15 : Cond.fieldLink RX5 15 (TX5 3).1 (TX5 3).2.1 (TX5 3).2.2.1 ∈ sn_gw := sn_gwI (lb_0 (lt_16 (lt_16 (lt_16 (lt_16 (lt_15 lt_h)))))) gw_fieldLink
theorem fp_RX5_15 : sn_Fp RX5 15 5 3 .int := ⟨RX5, TX5, 8, tyX5, rfl, ug_X5, by decide, kf_RX5_15, tyX5_ok, nmX5, rfl, tyX5_ok 3 (by decide)⟩
theorem kc_X5_isWord : Cond.code yX5_isWord cX5_isWord 3 (some .boolean) ∈ sn_gw := sn_gwI (lb_1 (lt_16 (lt_16 (lt_16 (lt_16 (lt_16 (lt_16 (lt_16 (lt_16 (lt_5 lt_h)))))))))) gw_code
theorem km_RX5_77 : Cond.methodLink RX5 77 yX5_isWord ∈ sn_gw := sn_gwI (lb_1 (lt_16 (lt_16 (lt_16 (lt_16 (lt_16 (lt_16 (lt_16 (lt_16 (lt_2 lt_h)))))))))) gw_methodLink
theorem kin_X5_isWord : Cond.instanceMethod yX5_isWord ∈ sn_gw := sn_gwI (lb_1 (lt_16 (lt_16 (lt_16 (lt_16 (lt_16 (lt_16 (lt_16 (lt_16 (lt_4 lt_h)))))))))) gw_instanceMethod
theorem ks_X5_isWord : Cond.selects RX5 yX5_isWord yX5_isWord ∈ sn_gw := sn_gwS (q := (yX5_isWord, 8)) (List.mem_of_getElem? (i := 4) rfl) gw_selects
theorem kl_RX5_77 : sn_LV RX5 77 yX5_isWord cX5_isWord 3 (some .boolean) 1 := ⟨sn_lv5 km_RX5_77 kin_X5_isWord ks_X5_isWord ki_RX5 kc_X5_isWord, kva_12, kvb_12, kpd_9⟩
theorem kc_X5_blame : Cond.code yX5_blame cX5_blame 2 none ∈ sn_gw := sn_gwI (lb_1 (lt_16 (lt_16 (lt_16 (lt_16 (lt_16 (lt_16 (lt_16 (lt_16 (lt_16 (lt_16 (lt_16 (lt_9 lt_h))))))))))))) gw_code
theorem km_RX5_100 : Cond.methodLink RX5 100 yX5_blame ∈ sn_gw := sn_gwI (lb_1 (lt_16 (lt_16 (lt_16 (lt_16 (lt_16 (lt_16 (lt_16 (lt_16 (lt_16 (lt_16 (lt_16 (lt_6 lt_h))))))))))))) gw_methodLink
theorem kin_X5_blame : Cond.instanceMethod yX5_blame ∈ sn_gw := sn_gwI (lb_1 (lt_16 (lt_16 (lt_16 (lt_16 (lt_16 (lt_16 (lt_16 (lt_16 (lt_16 (lt_16 (lt_16 (lt_8 lt_h))))))))))))) gw_instanceMethod
theorem ks_X5_blame : Cond.selects RX5 yX5_blame yX5_blame ∈ sn_gw := sn_gwS (q := (yX5_blame, 8)) (List.mem_of_getElem? (i := 5) rfl) gw_selects
theorem kl_RX5_100 : sn_LV RX5 100 yX5_blame cX5_blame 2 none 1 := ⟨sn_lv5 km_RX5_100 kin_X5_blame ks_X5_blame ki_RX5 kc_X5_blame, kva_12, kvb_12, kpd_11⟩
theorem kc_X5_step : Cond.code yX5_step cX5_step 1 none ∈ sn_gw := sn_gwI (lb_1 (lt_16 (lt_16 (lt_16 (lt_16 (lt_16 (lt_16 (lt_16 (lt_1 lt_h))))))))) gw_code
theorem km_RX5_37 : Cond.methodLink RX5 37 yX5_step ∈ sn_gw := sn_gwI (lb_1 (lt_16 (lt_16 (lt_16 (lt_16 (lt_16 (lt_16 (lt_14 lt_h)))))))) gw_methodLink
theorem kin_X5_step : Cond.instanceMethod yX5_step ∈ sn_gw := sn_gwI (lb_1 (lt_16 (lt_16 (lt_16 (lt_16 (lt_16 (lt_16 (lt_16 lt_h)))))))) gw_instanceMethod
theorem ks_X5_step : Cond.selects RX5 yX5_step yX5_step ∈ sn_gw := sn_gwS (q := (yX5_step, 8)) (List.mem_of_getElem? (i := 0) rfl) gw_selects
theorem kl_RX5_37 : sn_LV RX5 37 yX5_step cX5_step 1 none 0 := ⟨sn_lv5 km_RX5_37 kin_X5_step ks_X5_step ki_RX5 kc_X5_step, kva_12, kvb_12, kpd_10⟩
theorem kk_RX5_133 : Cond.constant RX5 133 (1000000) ∈ sn_gw := sn_gwI (lb_1 (lt_16 (lt_16 (lt_16 (lt_16 (lt_16 (lt_16 (lt_16 (lt_16 (lt_16 (lt_16 (lt_16 (lt_16 (lt_3 lt_h)))))))))))))) rfl
theorem kc_X5_value : Cond.code yX5_value cX5_value 3 (some .int) ∈ sn_gw := sn_gwI (lb_1 (lt_16 (lt_16 (lt_16 (lt_16 (lt_16 (lt_16 (lt_16 (lt_16 (lt_16 (lt_16 (lt_16 (lt_16 (lt_2 lt_h)))))))))))))) gw_code
theorem km_RX5_127 : Cond.methodLink RX5 127 yX5_value ∈ sn_gw := sn_gwI (lb_1 (lt_16 (lt_16 (lt_16 (lt_16 (lt_16 (lt_16 (lt_16 (lt_16 (lt_16 (lt_16 (lt_16 (lt_15 lt_h))))))))))))) gw_methodLink
theorem kin_X5_value : Cond.instanceMethod yX5_value ∈ sn_gw := sn_gwI (lb_1 (lt_16 (lt_16 (lt_16 (lt_16 (lt_16 (lt_16 (lt_16 (lt_16 (lt_16 (lt_16 (lt_16 (lt_16 (lt_1 lt_h)))))))))))))) gw_instanceMethod
theorem ks_X5_value : Cond.selects RX5 yX5_value yX5_value ∈ sn_gw := sn_gwS (q := (yX5_value, 8)) (List.mem_of_getElem? (i := 7) rfl) gw_selects
theorem kl_RX5_127 : sn_LV RX5 127 yX5_value cX5_value 3 (some .int) 0 := ⟨sn_lv5 km_RX5_127 kin_X5_value ks_X5_value ki_RX5 kc_X5_value, kva_12, kvb_12, kpd_7⟩
theorem kf_RX5_22 : Cond.fieldLink RX5 22 (TX5 7).1 (TX5 7).2.1 (TX5 7).2.2.1 ∈ sn_gw := sn_gwI (lb_0 (lt_16 (lt_16 (lt_16 (lt_16 (lt_16 (lt_4 lt_h))))))) gw_fieldLink
theorem fd_RX5_22 : sn_Fd RX5 22 5 7 := ⟨RX5, TX5, 8, rfl, ug_X5, by decide, kf_RX5_22⟩
theorem kf_RX5_49 : Cond.fieldLink RX5 49 (TX2 0).1 (TX2 0).2.1 (TX2 0).2.2.1 ∈ sn_gw := sn_gwI (lb_0 (lt_16 (lt_16 (lt_5 lt_h)))) gw_fieldLink
theorem fd_RX5_49 : sn_Fd RX5 49 2 0 := ⟨RX2, TX2, 6, rfl, ug_X2, by decide, kf_RX5_49⟩
theorem kc_X5_word : Cond.code yX5_word cX5_word 2 none ∈ sn_gw := sn_gwI (lb_1 (lt_16 (lt_16 (lt_16 (lt_16 (lt_16 (lt_16 (lt_16 (lt_16 (lt_1 lt_h)))))))))) gw_code
theorem km_RX5_54 : Cond.methodLink RX5 54 yX5_word ∈ sn_gw := sn_gwI (lb_1 (lt_16 (lt_16 (lt_16 (lt_16 (lt_16 (lt_16 (lt_16 (lt_14 lt_h))))))))) gw_methodLink
theorem kin_X5_word : Cond.instanceMethod yX5_word ∈ sn_gw := sn_gwI (lb_1 (lt_16 (lt_16 (lt_16 (lt_16 (lt_16 (lt_16 (lt_16 (lt_16 lt_h))))))))) gw_instanceMethod
theorem ks_X5_word : Cond.selects RX5 yX5_word yX5_word ∈ sn_gw := sn_gwS (q := (yX5_word, 8)) (List.mem_of_getElem? (i := 3) rfl) gw_selects
theorem kl_RX5_54 : sn_LV RX5 54 yX5_word cX5_word 2 none 1 := ⟨sn_lv5 km_RX5_54 kin_X5_word ks_X5_word ki_RX5 kc_X5_word, kva_12, kvb_12, kpd_12⟩
theorem kc_X5_number : Cond.code yX5_number cX5_number 5 (some .int) ∈ sn_gw := sn_gwI (lb_1 (lt_16 (lt_16 (lt_16 (lt_16 (lt_16 (lt_16 (lt_16 (lt_16 (lt_16 (lt_16 (lt_16 (lt_14 lt_h))))))))))))) gw_code
theorem km_RX5_60 : Cond.methodLink RX5 60 yX5_number ∈ sn_gw := sn_gwI (lb_1 (lt_16 (lt_16 (lt_16 (lt_16 (lt_16 (lt_16 (lt_16 (lt_16 (lt_16 (lt_16 (lt_16 (lt_11 lt_h))))))))))))) gw_methodLink
theorem kin_X5_number : Cond.instanceMethod yX5_number ∈ sn_gw := sn_gwI (lb_1 (lt_16 (lt_16 (lt_16 (lt_16 (lt_16 (lt_16 (lt_16 (lt_16 (lt_16 (lt_16 (lt_16 (lt_13 lt_h))))))))))))) gw_instanceMethod
theorem ks_X5_number : Cond.selects RX5 yX5_number yX5_number ∈ sn_gw := sn_gwS (q := (yX5_number, 8)) (List.mem_of_getElem? (i := 6) rfl) gw_selects
theorem kl_RX5_60 : sn_LV RX5 60 yX5_number cX5_number 5 (some .int) 3 := ⟨sn_lv5 km_RX5_60 kin_X5_number ks_X5_number ki_RX5 kc_X5_number, kva_12, kvb_12, kpd_19⟩
theorem kc_X5_sign : Cond.code yX5_sign cX5_sign 1 none ∈ sn_gw := sn_gwI (lb_1 (lt_16 (lt_16 (lt_16 (lt_16 (lt_16 (lt_16 (lt_16 (lt_16 (lt_16 (lt_16 (lt_16 (lt_16 (lt_11 lt_h)))))))))))))) gw_code
theorem km_RX5_72 : Cond.methodLink RX5 72 yX5_sign ∈ sn_gw := sn_gwI (lb_1 (lt_16 (lt_16 (lt_16 (lt_16 (lt_16 (lt_16 (lt_16 (lt_16 (lt_16 (lt_16 (lt_16 (lt_16 (lt_8 lt_h)))))))))))))) gw_methodLink
theorem kin_X5_sign : Cond.instanceMethod yX5_sign ∈ sn_gw := sn_gwI (lb_1 (lt_16 (lt_16 (lt_16 (lt_16 (lt_16 (lt_16 (lt_16 (lt_16 (lt_16 (lt_16 (lt_16 (lt_16 (lt_10 lt_h)))))))))))))) gw_instanceMethod
theorem ks_X5_sign : Cond.selects RX5 yX5_sign yX5_sign ∈ sn_gw := sn_gwS (q := (yX5_sign, 8)) (List.mem_of_getElem? (i := 8) rfl) gw_selects
theorem kl_RX5_72 : sn_LV RX5 72 yX5_sign cX5_sign 1 none 0 := ⟨sn_lv5 km_RX5_72 kin_X5_sign ks_X5_sign ki_RX5 kc_X5_sign, kva_12, kvb_12, kpd_10⟩
theorem kf_RX5_103 : Cond.fieldLink RX5 103 (TX2 1).1 (TX2 1).2.1 (TX2 1).2.2.1 ∈ sn_gw := sn_gwI (lb_0 (lt_16 (lt_16 (lt_9 lt_h)))) gw_fieldLink
theorem fd_RX5_103 : sn_Fd RX5 103 2 1 := ⟨RX2, TX2, 6, rfl, ug_X2, by decide, kf_RX5_103⟩
theorem kf_RX5_108 : Cond.fieldLink RX5 108 (TX2 2).1 (TX2 2).2.1 (TX2 2).2.2.1 ∈ sn_gw := sn_gwI (lb_0 (lt_16 (lt_16 (lt_13 lt_h)))) gw_fieldLink
theorem fd_RX5_108 : sn_Fd RX5 108 2 2 := ⟨RX2, TX2, 6, rfl, ug_X2, by decide, kf_RX5_108⟩
theorem kf_RX5_113 : Cond.fieldLink RX5 113 (TX2 3).1 (TX2 3).2.1 (TX2 3).2.2.1 ∈ sn_gw := sn_gwI (lb_0 (lt_16 (lt_16 (lt_16 lt_h)))) gw_fieldLink
theorem fd_RX5_113 : sn_Fd RX5 113 2 3 := ⟨RX2, TX2, 6, rfl, ug_X2, by decide, kf_RX5_113⟩
theorem kf_RX5_116 : Cond.fieldLink RX5 116 (TX2 4).1 (TX2 4).2.1 (TX2 4).2.2.1 ∈ sn_gw := sn_gwI (lb_0 (lt_16 (lt_16 (lt_16 (lt_2 lt_h))))) gw_fieldLink
theorem fd_RX5_116 : sn_Fd RX5 116 2 4 := ⟨RX2, TX2, 6, rfl, ug_X2, by decide, kf_RX5_116⟩
theorem kc_X5_readPolicy : Cond.code yX5_readPolicy cX5_readPolicy 4 none ∈ sn_gw := sn_gwI (lb_1 (lt_16 (lt_16 (lt_16 (lt_16 (lt_16 (lt_16 (lt_16 (lt_16 (lt_16 (lt_16 (lt_16 (lt_16 (lt_16 (lt_16 (lt_5 lt_h)))))))))))))))) gw_code
theorem km_RX5_97 : Cond.methodLink RX5 97 yX5_readPolicy ∈ sn_gw := sn_gwI (lb_1 (lt_16 (lt_16 (lt_16 (lt_16 (lt_16 (lt_16 (lt_16 (lt_16 (lt_16 (lt_16 (lt_16 (lt_16 (lt_16 (lt_16 (lt_2 lt_h)))))))))))))))) gw_methodLink
theorem kin_X5_readPolicy : Cond.instanceMethod yX5_readPolicy ∈ sn_gw := sn_gwI (lb_1 (lt_16 (lt_16 (lt_16 (lt_16 (lt_16 (lt_16 (lt_16 (lt_16 (lt_16 (lt_16 (lt_16 (lt_16 (lt_16 (lt_16 (lt_4 lt_h)))))))))))))))) gw_instanceMethod
theorem ks_X5_readPolicy : Cond.selects RX5 yX5_readPolicy yX5_readPolicy ∈ sn_gw := sn_gwS (q := (yX5_readPolicy, 8)) (List.mem_of_getElem? (i := 13) rfl) gw_selects
theorem kl_RX5_97 : sn_LV RX5 97 yX5_readPolicy cX5_readPolicy 4 none 1 := ⟨sn_lv5 km_RX5_97 kin_X5_readPolicy ks_X5_readPolicy ki_RX5 kc_X5_readPolicy, kva_12, kvb_12, kpd_11⟩
theorem kc_X5_readNet : Cond.code yX5_readNet cX5_readNet 3 none ∈ sn_gw := sn_gwI (lb_1 (lt_16 (lt_16 (lt_16 (lt_16 (lt_16 (lt_16 (lt_16 (lt_16 (lt_16 (lt_16 (lt_16 (lt_16 (lt_16 (lt_16 lt_h))))))))))))))) gw_code
theorem km_RX5_92 : Cond.methodLink RX5 92 yX5_readNet ∈ sn_gw := sn_gwI (lb_1 (lt_16 (lt_16 (lt_16 (lt_16 (lt_16 (lt_16 (lt_16 (lt_16 (lt_16 (lt_16 (lt_16 (lt_16 (lt_16 (lt_13 lt_h))))))))))))))) gw_methodLink
theorem kin_X5_readNet : Cond.instanceMethod yX5_readNet ∈ sn_gw := sn_gwI (lb_1 (lt_16 (lt_16 (lt_16 (lt_16 (lt_16 (lt_16 (lt_16 (lt_16 (lt_16 (lt_16 (lt_16 (lt_16 (lt_16 (lt_15 lt_h))))))))))))))) gw_instanceMethod
theorem ks_X5_readNet : Cond.selects RX5 yX5_readNet yX5_readNet ∈ sn_gw := sn_gwS (q := (yX5_readNet, 8)) (List.mem_of_getElem? (i := 12) rfl) gw_selects
theorem kl_RX5_92 : sn_LV RX5 92 yX5_readNet cX5_readNet 3 none 1 := ⟨sn_lv5 km_RX5_92 kin_X5_readNet ks_X5_readNet ki_RX5 kc_X5_readNet, kva_12, kvb_12, kpd_11⟩
theorem kc_X5_readGust : Cond.code yX5_readGust cX5_readGust 2 none ∈ sn_gw := sn_gwI (lb_1 (lt_16 (lt_16 (lt_16 (lt_16 (lt_16 (lt_16 (lt_16 (lt_16 (lt_16 (lt_16 (lt_16 (lt_16 (lt_16 (lt_10 lt_h))))))))))))))) gw_code
theorem km_RX5_87 : Cond.methodLink RX5 87 yX5_readGust ∈ sn_gw := sn_gwI (lb_1 (lt_16 (lt_16 (lt_16 (lt_16 (lt_16 (lt_16 (lt_16 (lt_16 (lt_16 (lt_16 (lt_16 (lt_16 (lt_16 (lt_7 lt_h))))))))))))))) gw_methodLink
theorem kin_X5_readGust : Cond.instanceMethod yX5_readGust ∈ sn_gw := sn_gwI (lb_1 (lt_16 (lt_16 (lt_16 (lt_16 (lt_16 (lt_16 (lt_16 (lt_16 (lt_16 (lt_16 (lt_16 (lt_16 (lt_16 (lt_9 lt_h))))))))))))))) gw_instanceMethod
theorem ks_X5_readGust : Cond.selects RX5 yX5_readGust yX5_readGust ∈ sn_gw := sn_gwS (q := (yX5_readGust, 8)) (List.mem_of_getElem? (i := 11) rfl) gw_selects
theorem kl_RX5_87 : sn_LV RX5 87 yX5_readGust cX5_readGust 2 none 1 := ⟨sn_lv5 km_RX5_87 kin_X5_readGust ks_X5_readGust ki_RX5 kc_X5_readGust, kva_12, kvb_12, kpd_11⟩
theorem kc_X5_readNose : Cond.code yX5_readNose cX5_readNose 2 none ∈ sn_gw := sn_gwI (lb_1 (lt_16 (lt_16 (lt_16 (lt_16 (lt_16 (lt_16 (lt_16 (lt_16 (lt_16 (lt_16 (lt_16 (lt_16 (lt_16 (lt_4 lt_h))))))))))))))) gw_code
theorem km_RX5_81 : Cond.methodLink RX5 81 yX5_readNose ∈ sn_gw := sn_gwI (lb_1 (lt_16 (lt_16 (lt_16 (lt_16 (lt_16 (lt_16 (lt_16 (lt_16 (lt_16 (lt_16 (lt_16 (lt_16 (lt_16 (lt_1 lt_h))))))))))))))) gw_methodLink
theorem kin_X5_readNose : Cond.instanceMethod yX5_readNose ∈ sn_gw := sn_gwI (lb_1 (lt_16 (lt_16 (lt_16 (lt_16 (lt_16 (lt_16 (lt_16 (lt_16 (lt_16 (lt_16 (lt_16 (lt_16 (lt_16 (lt_3 lt_h))))))))))))))) gw_instanceMethod
theorem ks_X5_readNose : Cond.selects RX5 yX5_readNose yX5_readNose ∈ sn_gw := sn_gwS (q := (yX5_readNose, 8)) (List.mem_of_getElem? (i := 10) rfl) gw_selects
theorem kl_RX5_81 : sn_LV RX5 81 yX5_readNose cX5_readNose 2 none 1 := ⟨sn_lv5 km_RX5_81 kin_X5_readNose ks_X5_readNose ki_RX5 kc_X5_readNose, kva_12, kvb_12, kpd_11⟩
theorem kc_X5_readLine : Cond.code yX5_readLine cX5_readLine 1 none ∈ sn_gw := sn_gwI (lb_1 (lt_16 (lt_16 (lt_16 (lt_16 (lt_16 (lt_16 (lt_16 (lt_16 (lt_16 (lt_16 (lt_16 (lt_16 (lt_15 lt_h)))))))))))))) gw_code
theorem km_RX5_46 : Cond.methodLink RX5 46 yX5_readLine ∈ sn_gw := sn_gwI (lb_1 (lt_16 (lt_16 (lt_16 (lt_16 (lt_16 (lt_16 (lt_16 (lt_16 (lt_16 (lt_16 (lt_16 (lt_16 (lt_12 lt_h)))))))))))))) gw_methodLink
theorem kin_X5_readLine : Cond.instanceMethod yX5_readLine ∈ sn_gw := sn_gwI (lb_1 (lt_16 (lt_16 (lt_16 (lt_16 (lt_16 (lt_16 (lt_16 (lt_16 (lt_16 (lt_16 (lt_16 (lt_16 (lt_14 lt_h)))))))))))))) gw_instanceMethod
theorem ks_X5_readLine : Cond.selects RX5 yX5_readLine yX5_readLine ∈ sn_gw := sn_gwS (q := (yX5_readLine, 8)) (List.mem_of_getElem? (i := 9) rfl) gw_selects
theorem kl_RX5_46 : sn_LV RX5 46 yX5_readLine cX5_readLine 1 none 0 := ⟨sn_lv5 km_RX5_46 kin_X5_readLine ks_X5_readLine ki_RX5 kc_X5_readLine, kva_12, kvb_12, kpd_10⟩
theorem kc_X5_readHouse : Cond.code yX5_readHouse cX5_readHouse 1 none ∈ sn_gw := sn_gwI (lb_1 (lt_16 (lt_16 (lt_16 (lt_16 (lt_16 (lt_16 (lt_16 (lt_12 lt_h))))))))) gw_code
theorem km_RX5_43 : Cond.methodLink RX5 43 yX5_readHouse ∈ sn_gw := sn_gwI (lb_1 (lt_16 (lt_16 (lt_16 (lt_16 (lt_16 (lt_16 (lt_16 (lt_9 lt_h))))))))) gw_methodLink
theorem kin_X5_readHouse : Cond.instanceMethod yX5_readHouse ∈ sn_gw := sn_gwI (lb_1 (lt_16 (lt_16 (lt_16 (lt_16 (lt_16 (lt_16 (lt_16 (lt_11 lt_h))))))))) gw_instanceMethod
theorem ks_X5_readHouse : Cond.selects RX5 yX5_readHouse yX5_readHouse ∈ sn_gw := sn_gwS (q := (yX5_readHouse, 8)) (List.mem_of_getElem? (i := 2) rfl) gw_selects
theorem kl_RX5_43 : sn_LV RX5 43 yX5_readHouse cX5_readHouse 1 none 0 := ⟨sn_lv5 km_RX5_43 kin_X5_readHouse ks_X5_readHouse ki_RX5 kc_X5_readHouse, kva_12, kvb_12, kpd_10⟩
theorem fp_RX5_22 : sn_Fp RX5 22 5 7 (.object "PepperPolicy$House") := ⟨RX5, TX5, 8, tyX5, rfl, ug_X5, by decide, kf_RX5_22, tyX5_ok, nmX5, rfl, tyX5_ok 7 (by decide)⟩
theorem kc_X2_clear : Cond.code yX2_clear cX2_clear 1 none ∈ sn_gw := sn_gwI (lb_1 (lt_16 (lt_16 (lt_16 (lt_16 (lt_16 (lt_16 (lt_12 lt_h)))))))) gw_code
theorem km_RX5_26 : Cond.methodLink RX5 26 yX2_clear ∈ sn_gw := sn_gwI (lb_1 (lt_16 (lt_16 (lt_16 (lt_16 (lt_16 (lt_16 (lt_9 lt_h)))))))) gw_methodLink
theorem kin_X2_clear : Cond.instanceMethod yX2_clear ∈ sn_gw := sn_gwI (lb_1 (lt_16 (lt_16 (lt_16 (lt_16 (lt_16 (lt_16 (lt_10 lt_h)))))))) gw_instanceMethod
theorem ks_X2_clear : Cond.selects RX2 yX2_clear yX2_clear ∈ sn_gw := sn_gwI (lb_1 (lt_16 (lt_16 (lt_16 (lt_16 (lt_16 (lt_16 (lt_11 lt_h)))))))) gw_selects
theorem kl_RX5_26 : sn_LV RX5 26 yX2_clear cX2_clear 1 none 0 := ⟨sn_lv5 km_RX5_26 kin_X2_clear ks_X2_clear ki_RX2 kc_X2_clear, kva_5, kvb_5, kpd_10⟩
theorem kf_RX6_20 : Cond.fieldLink RX6 20 (TX6 2).1 (TX6 2).2.1 (TX6 2).2.2.1 ∈ sn_gw := sn_gwI (lb_0 (lt_16 (lt_16 (lt_16 (lt_16 (lt_16 (lt_16 (lt_16 (lt_6 lt_h))))))))) gw_fieldLink
theorem fd_RX6_20 : sn_Fd RX6 20 6 2 := ⟨RX6, TX6, 3, rfl, ug_X6, by decide, kf_RX6_20⟩
theorem kc_X6_has : Cond.code yX6_has cX6_has 2 (some .boolean) ∈ sn_gw := sn_gwI (lb_3 (lt_16 (lt_16 (lt_16 (lt_16 (lt_16 (lt_16 (lt_16 (lt_16 (lt_16 (lt_16 (lt_4 lt_h)))))))))))) gw_code
theorem km_RX6_29 : Cond.methodLink RX6 29 yX6_has ∈ sn_gw := sn_gwI (lb_4 (lt_16 (lt_16 (lt_16 (lt_16 (lt_14 lt_h)))))) gw_methodLink
theorem kin_X6_has : Cond.instanceMethod yX6_has ∈ sn_gw := sn_gwI (lb_3 (lt_16 (lt_16 (lt_16 (lt_16 (lt_16 (lt_16 (lt_16 (lt_16 (lt_16 (lt_16 (lt_2 lt_h)))))))))))) gw_instanceMethod
theorem ks_X6_has : Cond.selects RX6 yX6_has yX6_has ∈ sn_gw := sn_gwI (lb_3 (lt_16 (lt_16 (lt_16 (lt_16 (lt_16 (lt_16 (lt_16 (lt_16 (lt_16 (lt_16 (lt_3 lt_h)))))))))))) gw_selects
theorem ki_RX6 : Cond.initialized RX6 ∈ sn_gw := sn_gwI (lb_0 (lt_4 lt_h)) gw_initialized
theorem kl_RX6_29 : sn_LV RX6 29 yX6_has cX6_has 2 (some .boolean) 1 := ⟨sn_lv5 km_RX6_29 kin_X6_has ks_X6_has ki_RX6 kc_X6_has, kva_13, kvb_13, kpd_16⟩
theorem kf_RX6_16 : Cond.fieldLink RX6 16 (TX6 1).1 (TX6 1).2.1 (TX6 1).2.2.1 ∈ sn_gw := sn_gwI (lb_0 (lt_16 (lt_16 (lt_16 (lt_16 (lt_16 (lt_16 (lt_16 (lt_4 lt_h))))))))) gw_fieldLink
theorem fd_RX6_16 : sn_Fd RX6 16 6 1 := ⟨RX6, TX6, 3, rfl, ug_X6, by decide, kf_RX6_16⟩
theorem kf_RX6_11 : Cond.fieldLink RX6 11 (TX6 0).1 (TX6 0).2.1 (TX6 0).2.2.1 ∈ sn_gw := sn_gwI (lb_0 (lt_16 (lt_16 (lt_16 (lt_16 (lt_16 (lt_16 (lt_16 (lt_2 lt_h))))))))) gw_fieldLink
theorem fd_RX6_11 : sn_Fd RX6 11 6 0 := ⟨RX6, TX6, 3, rfl, ug_X6, by decide, kf_RX6_11⟩
theorem km_RX6_33 : Cond.methodLink RX6 33 yJ7_fill_d0a16 ∈ sn_gw := sn_gwI (lb_4 (lt_16 (lt_16 (lt_16 (lt_16 (lt_16 (lt_15 lt_h))))))) gw_methodLink
theorem kl_RX6_33 : sn_LS RX6 33 yJ7_fill_d0a16 cJ7_fill_d0a16 5 none 2 := ⟨sn_ls4 km_RX6_33 kst_J7_fill_d0a16 ki_RJ7 kc_J7_fill_d0a16, kva_4, kvb_4, kpd_31⟩
theorem kf_RX7_9 : Cond.fieldLink RX7 9 (TX7 0).1 (TX7 0).2.1 (TX7 0).2.2.1 ∈ sn_gw := sn_gwI (lb_1 lt_h) gw_fieldLink
theorem fd_RX7_9 : sn_Fd RX7 9 7 0 := ⟨RX7, TX7, 5, rfl, ug_X7, by decide, kf_RX7_9⟩
theorem kf_RX7_15 : Cond.fieldLink RX7 15 (TX7 4).1 (TX7 4).2.1 (TX7 4).2.2.1 ∈ sn_gw := sn_gwI (lb_1 (lt_8 lt_h)) gw_fieldLink
theorem fd_RX7_15 : sn_Fd RX7 15 7 4 := ⟨RX7, TX7, 5, rfl, ug_X7, by decide, kf_RX7_15⟩
theorem km_RX7_18 : Cond.methodLink RX7 18 yJ7_fill_53178 ∈ sn_gw := sn_gwI (lb_3 (lt_16 (lt_16 (lt_16 (lt_16 (lt_16 (lt_16 (lt_16 (lt_16 (lt_16 (lt_16 (lt_9 lt_h)))))))))))) gw_methodLink
theorem kl_RX7_18 : sn_LS RX7 18 yJ7_fill_53178 cJ7_fill_53178 4 none 2 := ⟨sn_ls4 km_RX7_18 kst_J7_fill_53178 ki_RJ7 kc_J7_fill_53178, kva_4, kvb_4, kpd_29⟩
theorem kf_RX7_24 : Cond.fieldLink RX7 24 (TX7 1).1 (TX7 1).2.1 (TX7 1).2.2.1 ∈ sn_gw := sn_gwI (lb_1 (lt_2 lt_h)) gw_fieldLink
theorem fp_RX7_24 : sn_Fp RX7 24 7 1 .int := ⟨RX7, TX7, 5, tyX7, rfl, ug_X7, by decide, kf_RX7_24, tyX7_ok, nmX7, rfl, tyX7_ok 1 (by decide)⟩
theorem kf_RX7_28 : Cond.fieldLink RX7 28 (TX7 2).1 (TX7 2).2.1 (TX7 2).2.2.1 ∈ sn_gw := sn_gwI (lb_1 (lt_4 lt_h)) gw_fieldLink
theorem fp_RX7_28 : sn_Fp RX7 28 7 2 .int := ⟨RX7, TX7, 5, tyX7, rfl, ug_X7, by decide, kf_RX7_28, tyX7_ok, nmX7, rfl, tyX7_ok 2 (by decide)⟩
theorem kf_RX7_31 : Cond.fieldLink RX7 31 (TX7 3).1 (TX7 3).2.1 (TX7 3).2.2.1 ∈ sn_gw := sn_gwI (lb_1 (lt_6 lt_h)) gw_fieldLink
theorem fp_RX7_31 : sn_Fp RX7 31 7 3 .int := ⟨RX7, TX7, 5, tyX7, rfl, ug_X7, by decide, kf_RX7_31, tyX7_ok, nmX7, rfl, tyX7_ok 3 (by decide)⟩
theorem kf_RX7_60 : Cond.fieldLink RX7 60 (TX0 1).1 (TX0 1).2.1 (TX0 1).2.2.1 ∈ sn_gw := sn_gwI (lb_0 (lt_16 (lt_16 (lt_16 (lt_16 (lt_16 (lt_16 (lt_16 (lt_16 (lt_12 lt_h)))))))))) gw_fieldLink
theorem fd_RX7_60 : sn_Fd RX7 60 0 1 := ⟨RX0, TX0, 14, rfl, ug_X0, by decide, kf_RX7_60⟩
theorem kf_RX7_63 : Cond.fieldLink RX7 63 (TX0 13).1 (TX0 13).2.1 (TX0 13).2.2.1 ∈ sn_gw := sn_gwI (lb_0 (lt_16 (lt_16 (lt_16 (lt_16 (lt_16 (lt_16 (lt_16 (lt_16 (lt_16 (lt_16 (lt_7 lt_h)))))))))))) gw_fieldLink
theorem fd_RX7_63 : sn_Fd RX7 63 0 13 := ⟨RX0, TX0, 14, rfl, ug_X0, by decide, kf_RX7_63⟩
theorem fd_RX7_24 : sn_Fd RX7 24 7 1 := ⟨RX7, TX7, 5, rfl, ug_X7, by decide, kf_RX7_24⟩
theorem fd_RX7_28 : sn_Fd RX7 28 7 2 := ⟨RX7, TX7, 5, rfl, ug_X7, by decide, kf_RX7_28⟩
theorem km_RX7_66 : Cond.methodLink RX7 66 yJ6_bitCount_0f7a4 ∈ sn_gw := sn_gwI (lb_3 (lt_16 (lt_16 (lt_16 (lt_16 (lt_16 (lt_16 (lt_16 (lt_16 (lt_16 (lt_16 (lt_16 (lt_9 lt_h))))))))))))) gw_methodLink
theorem kl_RX7_66 : sn_LS RX7 66 yJ6_bitCount_0f7a4 cJ6_bitCount_0f7a4 1 (some .int) 1 := ⟨sn_ls4 km_RX7_66 kst_J6_bitCount_0f7a4 ki_RJ6 kc_J6_bitCount_0f7a4, kva_8, kvb_8, kpd_6⟩
theorem kf_RX7_40 : Cond.fieldLink RX7 40 (TX0 0).1 (TX0 0).2.1 (TX0 0).2.2.1 ∈ sn_gw := sn_gwI (lb_0 (lt_16 (lt_16 (lt_16 (lt_16 (lt_16 (lt_16 (lt_16 (lt_16 (lt_9 lt_h)))))))))) gw_fieldLink
theorem fd_RX7_40 : sn_Fd RX7 40 0 0 := ⟨RX0, TX0, 14, rfl, ug_X0, by decide, kf_RX7_40⟩
theorem kf_RX7_49 : Cond.fieldLink RX7 49 (TX0 4).1 (TX0 4).2.1 (TX0 4).2.2.1 ∈ sn_gw := sn_gwI (lb_0 (lt_16 (lt_16 (lt_16 (lt_16 (lt_16 (lt_16 (lt_16 (lt_16 (lt_16 (lt_3 lt_h))))))))))) gw_fieldLink
theorem fd_RX7_49 : sn_Fd RX7 49 0 4 := ⟨RX0, TX0, 14, rfl, ug_X0, by decide, kf_RX7_49⟩
theorem km_RX7_52 : Cond.methodLink RX7 52 yX0_live ∈ sn_gw := sn_gwI (lb_3 (lt_16 (lt_16 (lt_16 (lt_16 (lt_16 (lt_16 (lt_16 (lt_16 (lt_16 (lt_16 (lt_16 (lt_4 lt_h))))))))))))) gw_methodLink
theorem kl_RX7_52 : sn_LV RX7 52 yX0_live cX0_live 4 none 2 := ⟨sn_lv5 km_RX7_52 kin_X0_live ks_X0_live ki_RX0 kc_X0_live, kva_7, kvb_7, kpd_3⟩
theorem kl_RX7_41 : sn_LN RX7 41 yX8_firstMinutes RX8 cX8_firstMinutes 1 (some .int) 1 := ⟨sn_cg kc_X8_firstMinutes, (List.mem_of_getElem? (i := 13) rfl), kst_X8_firstMinutes, ki_RX8, kva_6, kvb_6, kpd_6⟩
theorem kc_X7_meets : Cond.code yX7_meets cX7_meets 4 (some .boolean) ∈ sn_gw := sn_gwI (lb_3 (lt_16 (lt_16 (lt_16 (lt_16 (lt_16 (lt_16 (lt_16 (lt_16 (lt_16 (lt_16 (lt_16 (lt_3 lt_h))))))))))))) gw_code
theorem km_RX7_45 : Cond.methodLink RX7 45 yX7_meets ∈ sn_gw := sn_gwI (lb_3 (lt_16 (lt_16 (lt_16 (lt_16 (lt_16 (lt_16 (lt_16 (lt_16 (lt_16 (lt_16 (lt_16 lt_h)))))))))))) gw_methodLink
theorem kin_X7_meets : Cond.instanceMethod yX7_meets ∈ sn_gw := sn_gwI (lb_3 (lt_16 (lt_16 (lt_16 (lt_16 (lt_16 (lt_16 (lt_16 (lt_16 (lt_16 (lt_16 (lt_16 (lt_2 lt_h))))))))))))) gw_instanceMethod
theorem ks_X7_meets : Cond.selects RX7 yX7_meets yX7_meets ∈ sn_gw := sn_gwS (q := (yX7_meets, 5)) (List.mem_of_getElem? (i := 33) rfl) gw_selects
theorem ki_RX7 : Cond.initialized RX7 ∈ sn_gw := sn_gwI (lb_0 (lt_9 lt_h)) gw_initialized
theorem kl_RX7_45 : sn_LV RX7 45 yX7_meets cX7_meets 4 (some .boolean) 2 := ⟨sn_lv5 km_RX7_45 kin_X7_meets ks_X7_meets ki_RX7 kc_X7_meets, kva_14, kvb_14, kpd_37⟩
theorem kc_X7_note : Cond.code yX7_note cX7_note 5 none ∈ sn_gw := sn_gwI (lb_3 (lt_16 (lt_16 (lt_16 (lt_16 (lt_16 (lt_16 (lt_16 (lt_16 (lt_16 (lt_16 (lt_16 (lt_8 lt_h))))))))))))) gw_code
theorem km_RX7_56 : Cond.methodLink RX7 56 yX7_note ∈ sn_gw := sn_gwI (lb_3 (lt_16 (lt_16 (lt_16 (lt_16 (lt_16 (lt_16 (lt_16 (lt_16 (lt_16 (lt_16 (lt_16 (lt_5 lt_h))))))))))))) gw_methodLink
theorem kin_X7_note : Cond.instanceMethod yX7_note ∈ sn_gw := sn_gwI (lb_3 (lt_16 (lt_16 (lt_16 (lt_16 (lt_16 (lt_16 (lt_16 (lt_16 (lt_16 (lt_16 (lt_16 (lt_7 lt_h))))))))))))) gw_instanceMethod
theorem ks_X7_note : Cond.selects RX7 yX7_note yX7_note ∈ sn_gw := sn_gwS (q := (yX7_note, 5)) (List.mem_of_getElem? (i := 34) rfl) gw_selects
theorem kl_RX7_56 : sn_LV RX7 56 yX7_note cX7_note 5 none 3 := ⟨sn_lv5 km_RX7_56 kin_X7_note ks_X7_note ki_RX7 kc_X7_note, kva_14, kvb_14, kpd_38⟩
theorem km_RX7_34 : Cond.methodLink RX7 34 yX0_copyFrom ∈ sn_gw := sn_gwI (lb_3 (lt_16 (lt_16 (lt_16 (lt_16 (lt_16 (lt_16 (lt_16 (lt_16 (lt_16 (lt_16 (lt_14 lt_h)))))))))))) gw_methodLink
theorem kl_RX7_34 : sn_LV RX7 34 yX0_copyFrom cX0_copyFrom 2 none 1 := ⟨sn_lv5 km_RX7_34 kin_X0_copyFrom ks_X0_copyFrom ki_RX0 kc_X0_copyFrom, kva_7, kvb_7, kpd_36⟩
theorem km_RX7_71 : Cond.methodLink RX7 71 Lib.Math.max.name ∈ sn_gw := sn_gwI (lb_3 (lt_16 (lt_16 (lt_16 (lt_16 (lt_16 (lt_16 (lt_16 (lt_16 (lt_16 (lt_16 (lt_16 (lt_16 (lt_14 lt_h)))))))))))))) gw_methodLink
theorem kc_X7_atWorst : Cond.code yX7_atWorst cX7_atWorst 4 (some .int) ∈ sn_gw := sn_gwI (lb_3 (lt_16 (lt_16 (lt_16 (lt_16 (lt_16 (lt_16 (lt_16 (lt_16 (lt_16 (lt_16 (lt_16 (lt_16 (lt_13 lt_h)))))))))))))) gw_code
theorem km_RX7_77 : Cond.methodLink RX7 77 yX7_atWorst ∈ sn_gw := sn_gwI (lb_3 (lt_16 (lt_16 (lt_16 (lt_16 (lt_16 (lt_16 (lt_16 (lt_16 (lt_16 (lt_16 (lt_16 (lt_16 (lt_10 lt_h)))))))))))))) gw_methodLink
theorem kin_X7_atWorst : Cond.instanceMethod yX7_atWorst ∈ sn_gw := sn_gwI (lb_3 (lt_16 (lt_16 (lt_16 (lt_16 (lt_16 (lt_16 (lt_16 (lt_16 (lt_16 (lt_16 (lt_16 (lt_16 (lt_11 lt_h)))))))))))))) gw_instanceMethod
theorem ks_X7_atWorst : Cond.selects RX7 yX7_atWorst yX7_atWorst ∈ sn_gw := sn_gwI (lb_3 (lt_16 (lt_16 (lt_16 (lt_16 (lt_16 (lt_16 (lt_16 (lt_16 (lt_16 (lt_16 (lt_16 (lt_16 (lt_12 lt_h)))))))))))))) gw_selects
theorem kl_RX7_77 : sn_LV RX7 77 yX7_atWorst cX7_atWorst 4 (some .int) 1 := ⟨sn_lv5 km_RX7_77 kin_X7_atWorst ks_X7_atWorst ki_RX7 kc_X7_atWorst, kva_14, kvb_14, kpd_6⟩
theorem kf_RX8_30 : Cond.fieldLink RX8 30 (TX8 4).1 (TX8 4).2.1 (TX8 4).2.2.1 ∈ sn_gw := sn_gwI (lb_1 (lt_16 (lt_16 (lt_16 (lt_4 lt_h))))) gw_fieldLink
theorem fd_RX8_30 : sn_Fd RX8 30 8 4 := ⟨RX8, TX8, 12, rfl, ug_X8, by decide, kf_RX8_30⟩
theorem kf_RX8_79 : Cond.fieldLink RX8 79 (TX5 1).1 (TX5 1).2.1 (TX5 1).2.2.1 ∈ sn_gw := sn_gwI (lb_0 (lt_16 (lt_16 (lt_16 (lt_16 (lt_11 lt_h)))))) gw_fieldLink
theorem fd_RX8_79 : sn_Fd RX8 79 5 1 := ⟨RX5, TX5, 8, rfl, ug_X5, by decide, kf_RX8_79⟩
theorem kc_X5_put : Cond.code yX5_put cX5_put 3 none ∈ sn_gw := sn_gwI (lb_1 (lt_16 (lt_16 (lt_16 (lt_16 (lt_16 (lt_12 lt_h))))))) gw_code
theorem km_RX8_83 : Cond.methodLink RX8 83 yX5_put ∈ sn_gw := sn_gwI (lb_1 (lt_16 (lt_16 (lt_16 (lt_16 (lt_16 (lt_9 lt_h))))))) gw_methodLink
theorem kin_X5_put : Cond.instanceMethod yX5_put ∈ sn_gw := sn_gwI (lb_1 (lt_16 (lt_16 (lt_16 (lt_16 (lt_16 (lt_10 lt_h))))))) gw_instanceMethod
theorem ks_X5_put : Cond.selects RX5 yX5_put yX5_put ∈ sn_gw := sn_gwI (lb_1 (lt_16 (lt_16 (lt_16 (lt_16 (lt_16 (lt_11 lt_h))))))) gw_selects
theorem kl_RX8_83 : sn_LV RX8 83 yX5_put cX5_put 3 none 1 := ⟨sn_lv5 km_RX8_83 kin_X5_put ks_X5_put ki_RX5 kc_X5_put, kva_12, kvb_12, kpd_11⟩
theorem fp_RX8_79 : sn_Fp RX8 79 5 1 .int := ⟨RX5, TX5, 8, tyX5, rfl, ug_X5, by decide, kf_RX8_79, tyX5_ok, nmX5, rfl, tyX5_ok 1 (by decide)⟩
theorem kf_RX8_44 : Cond.fieldLink RX8 44 (TX8 6).1 (TX8 6).2.1 (TX8 6).2.2.1 ∈ sn_gw := sn_gwI (lb_1 (lt_16 (lt_16 (lt_16 (lt_6 lt_h))))) gw_fieldLink
theorem fd_RX8_44 : sn_Fd RX8 44 8 6 := ⟨RX8, TX8, 12, rfl, ug_X8, by decide, kf_RX8_44⟩
theorem kf_RX8_10 : Cond.fieldLink RX8 10 (TX8 0).1 (TX8 0).2.1 (TX8 0).2.2.1 ∈ sn_gw := sn_gwI (lb_1 (lt_16 (lt_16 (lt_16 lt_h)))) gw_fieldLink
theorem fd_RX8_10 : sn_Fd RX8 10 8 0 := ⟨RX8, TX8, 12, rfl, ug_X8, by decide, kf_RX8_10⟩
theorem kc_X0_tellFrom : Cond.code yX0_tellFrom cX0_tellFrom 3 none ∈ sn_gw := sn_gwI (lb_2 (lt_8 lt_h)) gw_code
theorem km_RX8_373 : Cond.methodLink RX8 373 yX0_tellFrom ∈ sn_gw := sn_gwI (lb_2 (lt_5 lt_h)) gw_methodLink
theorem kin_X0_tellFrom : Cond.instanceMethod yX0_tellFrom ∈ sn_gw := sn_gwI (lb_2 (lt_6 lt_h)) gw_instanceMethod
theorem ks_X0_tellFrom : Cond.selects RX0 yX0_tellFrom yX0_tellFrom ∈ sn_gw := sn_gwI (lb_2 (lt_7 lt_h)) gw_selects
theorem kl_RX8_373 : sn_LV RX8 373 yX0_tellFrom cX0_tellFrom 3 none 1 := ⟨sn_lv5 km_RX8_373 kin_X0_tellFrom ks_X0_tellFrom ki_RX0 kc_X0_tellFrom, kva_7, kvb_7, kpd_39⟩
theorem kc_X0_liveWhole : Cond.code yX0_liveWhole cX0_liveWhole 1 none ∈ sn_gw := sn_gwI (lb_2 (lt_16 (lt_2 lt_h))) gw_code
theorem km_RX8_189 : Cond.methodLink RX8 189 yX0_liveWhole ∈ sn_gw := sn_gwI (lb_2 (lt_15 lt_h)) gw_methodLink
theorem kin_X0_liveWhole : Cond.instanceMethod yX0_liveWhole ∈ sn_gw := sn_gwI (lb_2 (lt_16 lt_h)) gw_instanceMethod
theorem ks_X0_liveWhole : Cond.selects RX0 yX0_liveWhole yX0_liveWhole ∈ sn_gw := sn_gwI (lb_2 (lt_16 (lt_1 lt_h))) gw_selects
theorem kl_RX8_189 : sn_LV RX8 189 yX0_liveWhole cX0_liveWhole 1 none 0 := ⟨sn_lv5 km_RX8_189 kin_X0_liveWhole ks_X0_liveWhole ki_RX0 kc_X0_liveWhole, kva_7, kvb_7, kpd_10⟩
theorem kf_RX8_16 : Cond.fieldLink RX8 16 (TX8 1).1 (TX8 1).2.1 (TX8 1).2.2.1 ∈ sn_gw := sn_gwI (lb_1 (lt_16 (lt_16 (lt_16 (lt_1 lt_h))))) gw_fieldLink
theorem fd_RX8_16 : sn_Fd RX8 16 8 1 := ⟨RX8, TX8, 12, rfl, ug_X8, by decide, kf_RX8_16⟩
theorem kf_RX8_91 : Cond.fieldLink RX8 91 (TX5 2).1 (TX5 2).2.1 (TX5 2).2.2.1 ∈ sn_gw := sn_gwI (lb_0 (lt_16 (lt_16 (lt_16 (lt_16 (lt_14 lt_h)))))) gw_fieldLink
theorem fd_RX8_91 : sn_Fd RX8 91 5 2 := ⟨RX5, TX5, 8, rfl, ug_X5, by decide, kf_RX8_91⟩
theorem kf_RX8_100 : Cond.fieldLink RX8 100 (TX2 0).1 (TX2 0).2.1 (TX2 0).2.2.1 ∈ sn_gw := sn_gwI (lb_0 (lt_16 (lt_16 (lt_6 lt_h)))) gw_fieldLink
theorem fd_RX8_100 : sn_Fd RX8 100 2 0 := ⟨RX2, TX2, 6, rfl, ug_X2, by decide, kf_RX8_100⟩
theorem kc_X5_read : Cond.code yX5_read cX5_read 3 none ∈ sn_gw := sn_gwI (lb_1 (lt_16 (lt_16 (lt_16 (lt_16 (lt_16 (lt_16 (lt_8 lt_h)))))))) gw_code
theorem km_RX8_87 : Cond.methodLink RX8 87 yX5_read ∈ sn_gw := sn_gwI (lb_1 (lt_16 (lt_16 (lt_16 (lt_16 (lt_16 (lt_16 (lt_5 lt_h)))))))) gw_methodLink
theorem kin_X5_read : Cond.instanceMethod yX5_read ∈ sn_gw := sn_gwI (lb_1 (lt_16 (lt_16 (lt_16 (lt_16 (lt_16 (lt_16 (lt_6 lt_h)))))))) gw_instanceMethod
theorem ks_X5_read : Cond.selects RX5 yX5_read yX5_read ∈ sn_gw := sn_gwI (lb_1 (lt_16 (lt_16 (lt_16 (lt_16 (lt_16 (lt_16 (lt_7 lt_h)))))))) gw_selects
theorem kl_RX8_87 : sn_LV RX8 87 yX5_read cX5_read 3 none 1 := ⟨sn_lv5 km_RX8_87 kin_X5_read ks_X5_read ki_RX5 kc_X5_read, kva_12, kvb_12, kpd_39⟩
theorem kc_X2_copyFrom : Cond.code yX2_copyFrom cX2_copyFrom 2 none ∈ sn_gw := sn_gwI (lb_1 (lt_16 (lt_16 (lt_16 (lt_16 (lt_16 (lt_16 (lt_16 (lt_16 (lt_16 (lt_16 (lt_16 (lt_16 (lt_16 (lt_16 (lt_13 lt_h)))))))))))))))) gw_code
theorem km_RX8_94 : Cond.methodLink RX8 94 yX2_copyFrom ∈ sn_gw := sn_gwI (lb_1 (lt_16 (lt_16 (lt_16 (lt_16 (lt_16 (lt_16 (lt_16 (lt_16 (lt_16 (lt_16 (lt_16 (lt_16 (lt_16 (lt_16 (lt_10 lt_h)))))))))))))))) gw_methodLink
theorem kin_X2_copyFrom : Cond.instanceMethod yX2_copyFrom ∈ sn_gw := sn_gwI (lb_1 (lt_16 (lt_16 (lt_16 (lt_16 (lt_16 (lt_16 (lt_16 (lt_16 (lt_16 (lt_16 (lt_16 (lt_16 (lt_16 (lt_16 (lt_11 lt_h)))))))))))))))) gw_instanceMethod
theorem ks_X2_copyFrom : Cond.selects RX2 yX2_copyFrom yX2_copyFrom ∈ sn_gw := sn_gwI (lb_1 (lt_16 (lt_16 (lt_16 (lt_16 (lt_16 (lt_16 (lt_16 (lt_16 (lt_16 (lt_16 (lt_16 (lt_16 (lt_16 (lt_16 (lt_12 lt_h)))))))))))))))) gw_selects
theorem kl_RX8_94 : sn_LV RX8 94 yX2_copyFrom cX2_copyFrom 2 none 1 := ⟨sn_lv5 km_RX8_94 kin_X2_copyFrom ks_X2_copyFrom ki_RX2 kc_X2_copyFrom, kva_5, kvb_5, kpd_39⟩
theorem kc_X8_liveAnew : Cond.code yX8_liveAnew cX8_liveAnew 1 none ∈ sn_gw := sn_gwI (lb_2 (lt_4 lt_h)) gw_code
theorem km_RX8_97 : Cond.methodLink RX8 97 yX8_liveAnew ∈ sn_gw := sn_gwI (lb_2 (lt_1 lt_h)) gw_methodLink
theorem kin_X8_liveAnew : Cond.instanceMethod yX8_liveAnew ∈ sn_gw := sn_gwI (lb_2 (lt_3 lt_h)) gw_instanceMethod
theorem ks_X8_liveAnew : Cond.selects RX8 yX8_liveAnew yX8_liveAnew ∈ sn_gw := sn_gwS (q := (yX8_liveAnew, 12)) (List.mem_of_getElem? (i := 14) rfl) gw_selects
theorem kl_RX8_97 : sn_LV RX8 97 yX8_liveAnew cX8_liveAnew 1 none 0 := ⟨sn_lv5 km_RX8_97 kin_X8_liveAnew ks_X8_liveAnew ki_RX8 kc_X8_liveAnew, kva_6, kvb_6, kpd_10⟩
theorem kf_RX8_104 : Cond.fieldLink RX8 104 (TX5 3).1 (TX5 3).2.1 (TX5 3).2.2.1 ∈ sn_gw := sn_gwI (lb_0 (lt_16 (lt_16 (lt_16 (lt_16 (lt_16 lt_h)))))) gw_fieldLink
theorem fd_RX8_104 : sn_Fd RX8 104 5 3 := ⟨RX5, TX5, 8, rfl, ug_X5, by decide, kf_RX8_104⟩
theorem kf_RX8_111 : Cond.fieldLink RX8 111 (TX2 1).1 (TX2 1).2.1 (TX2 1).2.2.1 ∈ sn_gw := sn_gwI (lb_0 (lt_16 (lt_16 (lt_10 lt_h)))) gw_fieldLink
theorem fd_RX8_111 : sn_Fd RX8 111 2 1 := ⟨RX2, TX2, 6, rfl, ug_X2, by decide, kf_RX8_111⟩
theorem kc_X8_isPerson : Cond.code yX8_isPerson cX8_isPerson 2 (some .boolean) ∈ sn_gw := sn_gwI (lb_2 (lt_16 (lt_16 (lt_16 (lt_9 lt_h))))) gw_code
theorem km_RX8_107 : Cond.methodLink RX8 107 yX8_isPerson ∈ sn_gw := sn_gwI (lb_2 (lt_16 (lt_16 (lt_16 (lt_6 lt_h))))) gw_methodLink
theorem kin_X8_isPerson : Cond.instanceMethod yX8_isPerson ∈ sn_gw := sn_gwI (lb_2 (lt_16 (lt_16 (lt_16 (lt_8 lt_h))))) gw_instanceMethod
theorem ks_X8_isPerson : Cond.selects RX8 yX8_isPerson yX8_isPerson ∈ sn_gw := sn_gwS (q := (yX8_isPerson, 12)) (List.mem_of_getElem? (i := 17) rfl) gw_selects
theorem kl_RX8_107 : sn_LV RX8 107 yX8_isPerson cX8_isPerson 2 (some .boolean) 1 := ⟨sn_lv5 km_RX8_107 kin_X8_isPerson ks_X8_isPerson ki_RX8 kc_X8_isPerson, kva_6, kvb_6, kpd_16⟩
theorem kc_X8_isPolicy : Cond.code yX8_isPolicy cX8_isPolicy 2 (some .boolean) ∈ sn_gw := sn_gwI (lb_2 (lt_16 (lt_16 (lt_16 (lt_16 (lt_1 lt_h)))))) gw_code
theorem km_RX8_114 : Cond.methodLink RX8 114 yX8_isPolicy ∈ sn_gw := sn_gwI (lb_2 (lt_16 (lt_16 (lt_16 (lt_14 lt_h))))) gw_methodLink
theorem kin_X8_isPolicy : Cond.instanceMethod yX8_isPolicy ∈ sn_gw := sn_gwI (lb_2 (lt_16 (lt_16 (lt_16 (lt_16 lt_h))))) gw_instanceMethod
theorem ks_X8_isPolicy : Cond.selects RX8 yX8_isPolicy yX8_isPolicy ∈ sn_gw := sn_gwS (q := (yX8_isPolicy, 12)) (List.mem_of_getElem? (i := 18) rfl) gw_selects
theorem kl_RX8_114 : sn_LV RX8 114 yX8_isPolicy cX8_isPolicy 2 (some .boolean) 1 := ⟨sn_lv5 km_RX8_114 kin_X8_isPolicy ks_X8_isPolicy ki_RX8 kc_X8_isPolicy, kva_6, kvb_6, kpd_16⟩
theorem km_RX8_117 : Cond.methodLink RX8 117 yX2_ofPolicy ∈ sn_gw := sn_gwI (lb_2 (lt_16 (lt_16 (lt_16 (lt_16 (lt_2 lt_h)))))) gw_methodLink
theorem kl_RX8_117 : sn_LV RX8 117 yX2_ofPolicy cX2_ofPolicy 3 (some .int) 2 := ⟨sn_lv5 km_RX8_117 kin_X2_ofPolicy ks_X2_ofPolicy ki_RX2 kc_X2_ofPolicy, kva_5, kvb_5, kpd_13⟩
theorem kc_X2_neighbours : Cond.code yX2_neighbours cX2_neighbours 4 (some .int) ∈ sn_gw := sn_gwI (lb_2 (lt_16 (lt_16 (lt_16 (lt_16 (lt_13 lt_h)))))) gw_code
theorem km_RX8_121 : Cond.methodLink RX8 121 yX2_neighbours ∈ sn_gw := sn_gwI (lb_2 (lt_16 (lt_16 (lt_16 (lt_16 (lt_10 lt_h)))))) gw_methodLink
theorem kin_X2_neighbours : Cond.instanceMethod yX2_neighbours ∈ sn_gw := sn_gwI (lb_2 (lt_16 (lt_16 (lt_16 (lt_16 (lt_11 lt_h)))))) gw_instanceMethod
theorem ks_X2_neighbours : Cond.selects RX2 yX2_neighbours yX2_neighbours ∈ sn_gw := sn_gwI (lb_2 (lt_16 (lt_16 (lt_16 (lt_16 (lt_12 lt_h)))))) gw_selects
theorem kl_RX8_121 : sn_LV RX8 121 yX2_neighbours cX2_neighbours 4 (some .int) 1 := ⟨sn_lv5 km_RX8_121 kin_X2_neighbours ks_X2_neighbours ki_RX2 kc_X2_neighbours, kva_5, kvb_5, kpd_6⟩
theorem kf_RX8_128 : Cond.fieldLink RX8 128 (TX0 4).1 (TX0 4).2.1 (TX0 4).2.2.1 ∈ sn_gw := sn_gwI (lb_0 (lt_16 (lt_16 (lt_16 (lt_16 (lt_16 (lt_16 (lt_16 (lt_16 (lt_16 (lt_4 lt_h))))))))))) gw_fieldLink
theorem fd_RX8_128 : sn_Fd RX8 128 0 4 := ⟨RX0, TX0, 14, rfl, ug_X0, by decide, kf_RX8_128⟩
theorem kc_X8_isMinute : Cond.code yX8_isMinute cX8_isMinute 2 (some .boolean) ∈ sn_gw := sn_gwI (lb_2 (lt_16 (lt_16 (lt_16 (lt_16 (lt_16 (lt_5 lt_h))))))) gw_code
theorem km_RX8_125 : Cond.methodLink RX8 125 yX8_isMinute ∈ sn_gw := sn_gwI (lb_2 (lt_16 (lt_16 (lt_16 (lt_16 (lt_16 (lt_2 lt_h))))))) gw_methodLink
theorem kin_X8_isMinute : Cond.instanceMethod yX8_isMinute ∈ sn_gw := sn_gwI (lb_2 (lt_16 (lt_16 (lt_16 (lt_16 (lt_16 (lt_4 lt_h))))))) gw_instanceMethod
theorem ks_X8_isMinute : Cond.selects RX8 yX8_isMinute yX8_isMinute ∈ sn_gw := sn_gwS (q := (yX8_isMinute, 12)) (List.mem_of_getElem? (i := 19) rfl) gw_selects
theorem kl_RX8_125 : sn_LV RX8 125 yX8_isMinute cX8_isMinute 2 (some .boolean) 1 := ⟨sn_lv5 km_RX8_125 kin_X8_isMinute ks_X8_isMinute ki_RX8 kc_X8_isMinute, kva_6, kvb_6, kpd_16⟩
theorem kf_RX8_131 : Cond.fieldLink RX8 131 (TX0 13).1 (TX0 13).2.1 (TX0 13).2.2.1 ∈ sn_gw := sn_gwI (lb_0 (lt_16 (lt_16 (lt_16 (lt_16 (lt_16 (lt_16 (lt_16 (lt_16 (lt_16 (lt_16 (lt_8 lt_h)))))))))))) gw_fieldLink
theorem fd_RX8_131 : sn_Fd RX8 131 0 13 := ⟨RX0, TX0, 14, rfl, ug_X0, by decide, kf_RX8_131⟩
theorem km_RX8_134 : Cond.methodLink RX8 134 yX8_lowestBit ∈ sn_gw := sn_gwI (lb_2 (lt_16 (lt_16 (lt_16 (lt_16 (lt_16 (lt_14 lt_h))))))) gw_methodLink
theorem kl_RX8_134 : sn_LS RX8 134 yX8_lowestBit cX8_lowestBit 1 (some .int) 1 := ⟨sn_ls4 km_RX8_134 kst_X8_lowestBit ki_RX8 kc_X8_lowestBit, kva_6, kvb_6, kpd_6⟩
theorem kc_X8_isHouse : Cond.code yX8_isHouse cX8_isHouse 1 (some .boolean) ∈ sn_gw := sn_gwI (lb_2 (lt_16 (lt_16 (lt_16 (lt_16 (lt_16 (lt_16 (lt_14 lt_h)))))))) gw_code
theorem km_RX8_137 : Cond.methodLink RX8 137 yX8_isHouse ∈ sn_gw := sn_gwI (lb_2 (lt_16 (lt_16 (lt_16 (lt_16 (lt_16 (lt_16 (lt_11 lt_h)))))))) gw_methodLink
theorem kin_X8_isHouse : Cond.instanceMethod yX8_isHouse ∈ sn_gw := sn_gwI (lb_2 (lt_16 (lt_16 (lt_16 (lt_16 (lt_16 (lt_16 (lt_13 lt_h)))))))) gw_instanceMethod
theorem ks_X8_isHouse : Cond.selects RX8 yX8_isHouse yX8_isHouse ∈ sn_gw := sn_gwS (q := (yX8_isHouse, 12)) (List.mem_of_getElem? (i := 20) rfl) gw_selects
theorem kl_RX8_137 : sn_LV RX8 137 yX8_isHouse cX8_isHouse 1 (some .boolean) 0 := ⟨sn_lv5 km_RX8_137 kin_X8_isHouse ks_X8_isHouse ki_RX8 kc_X8_isHouse, kva_6, kvb_6, kpd_1⟩
theorem kc_X0_total : Cond.code yX0_total cX0_total 3 (some .int) ∈ sn_gw := sn_gwI (lb_2 (lt_16 (lt_16 (lt_16 (lt_16 (lt_16 (lt_16 (lt_16 (lt_2 lt_h))))))))) gw_code
theorem km_RX8_141 : Cond.methodLink RX8 141 yX0_total ∈ sn_gw := sn_gwI (lb_2 (lt_16 (lt_16 (lt_16 (lt_16 (lt_16 (lt_16 (lt_15 lt_h)))))))) gw_methodLink
theorem kin_X0_total : Cond.instanceMethod yX0_total ∈ sn_gw := sn_gwI (lb_2 (lt_16 (lt_16 (lt_16 (lt_16 (lt_16 (lt_16 (lt_16 lt_h)))))))) gw_instanceMethod
theorem ks_X0_total : Cond.selects RX0 yX0_total yX0_total ∈ sn_gw := sn_gwI (lb_2 (lt_16 (lt_16 (lt_16 (lt_16 (lt_16 (lt_16 (lt_16 (lt_1 lt_h))))))))) gw_selects
theorem kl_RX8_141 : sn_LV RX8 141 yX0_total cX0_total 3 (some .int) 0 := ⟨sn_lv5 km_RX8_141 kin_X0_total ks_X0_total ki_RX0 kc_X0_total, kva_7, kvb_7, kpd_7⟩
theorem kf_RX8_145 : Cond.fieldLink RX8 145 (TX0 12).1 (TX0 12).2.1 (TX0 12).2.2.1 ∈ sn_gw := sn_gwI (lb_0 (lt_16 (lt_16 (lt_16 (lt_16 (lt_16 (lt_16 (lt_16 (lt_16 (lt_16 (lt_16 (lt_3 lt_h)))))))))))) gw_fieldLink
theorem fd_RX8_145 : sn_Fd RX8 145 0 12 := ⟨RX0, TX0, 14, rfl, ug_X0, by decide, kf_RX8_145⟩
theorem kc_X0_tickleAt : Cond.code yX0_tickleAt cX0_tickleAt 3 (some .int) ∈ sn_gw := sn_gwI (lb_2 (lt_16 (lt_16 (lt_16 (lt_16 (lt_16 (lt_16 (lt_16 (lt_15 lt_h))))))))) gw_code
theorem km_RX8_148 : Cond.methodLink RX8 148 yX0_tickleAt ∈ sn_gw := sn_gwI (lb_2 (lt_16 (lt_16 (lt_16 (lt_16 (lt_16 (lt_16 (lt_16 (lt_12 lt_h))))))))) gw_methodLink
theorem kin_X0_tickleAt : Cond.instanceMethod yX0_tickleAt ∈ sn_gw := sn_gwI (lb_2 (lt_16 (lt_16 (lt_16 (lt_16 (lt_16 (lt_16 (lt_16 (lt_13 lt_h))))))))) gw_instanceMethod
theorem ks_X0_tickleAt : Cond.selects RX0 yX0_tickleAt yX0_tickleAt ∈ sn_gw := sn_gwI (lb_2 (lt_16 (lt_16 (lt_16 (lt_16 (lt_16 (lt_16 (lt_16 (lt_14 lt_h))))))))) gw_selects
theorem kl_RX8_148 : sn_LV RX8 148 yX0_tickleAt cX0_tickleAt 3 (some .int) 2 := ⟨sn_lv5 km_RX8_148 kin_X0_tickleAt ks_X0_tickleAt ki_RX0 kc_X0_tickleAt, kva_7, kvb_7, kpd_13⟩
theorem kf_RX8_151 : Cond.fieldLink RX8 151 (TX0 0).1 (TX0 0).2.1 (TX0 0).2.2.1 ∈ sn_gw := sn_gwI (lb_0 (lt_16 (lt_16 (lt_16 (lt_16 (lt_16 (lt_16 (lt_16 (lt_16 (lt_10 lt_h)))))))))) gw_fieldLink
theorem fd_RX8_151 : sn_Fd RX8 151 0 0 := ⟨RX0, TX0, 14, rfl, ug_X0, by decide, kf_RX8_151⟩
theorem km_RX8_154 : Cond.methodLink RX8 154 Lib.Math.max.name ∈ sn_gw := sn_gwI (lb_2 (lt_16 (lt_16 (lt_16 (lt_16 (lt_16 (lt_16 (lt_16 (lt_16 (lt_4 lt_h)))))))))) gw_methodLink
theorem km_RX8_159 : Cond.methodLink RX8 159 yX0_cameAt ∈ sn_gw := sn_gwI (lb_2 (lt_16 (lt_16 (lt_16 (lt_16 (lt_16 (lt_16 (lt_16 (lt_16 (lt_11 lt_h)))))))))) gw_methodLink
theorem kl_RX8_159 : sn_LV RX8 159 yX0_cameAt cX0_cameAt 3 (some .int) 2 := ⟨sn_lv5 km_RX8_159 kin_X0_cameAt ks_X0_cameAt ki_RX0 kc_X0_cameAt, kva_7, kvb_7, kpd_13⟩
theorem kf_RX8_162 : Cond.fieldLink RX8 162 (TX0 1).1 (TX0 1).2.1 (TX0 1).2.2.1 ∈ sn_gw := sn_gwI (lb_0 (lt_16 (lt_16 (lt_16 (lt_16 (lt_16 (lt_16 (lt_16 (lt_16 (lt_13 lt_h)))))))))) gw_fieldLink
theorem fd_RX8_162 : sn_Fd RX8 162 0 1 := ⟨RX0, TX0, 14, rfl, ug_X0, by decide, kf_RX8_162⟩
theorem km_RX8_170 : Cond.methodLink RX8 170 yX8_hasBit ∈ sn_gw := sn_gwI (lb_2 (lt_16 (lt_16 (lt_16 (lt_16 (lt_16 (lt_16 (lt_16 (lt_16 (lt_16 (lt_16 lt_h))))))))))) gw_methodLink
theorem kl_RX8_170 : sn_LS RX8 170 yX8_hasBit cX8_hasBit 2 (some .boolean) 2 := ⟨sn_ls4 km_RX8_170 kst_X8_hasBit ki_RX8 kc_X8_hasBit, kva_6, kvb_6, kpd_20⟩
theorem km_RX8_174 : Cond.methodLink RX8 174 yX8_firstMinutes ∈ sn_gw := sn_gwI (lb_2 (lt_16 (lt_16 (lt_16 (lt_16 (lt_16 (lt_16 (lt_16 (lt_16 (lt_16 (lt_16 (lt_5 lt_h)))))))))))) gw_methodLink
theorem kl_RX8_174 : sn_LS RX8 174 yX8_firstMinutes cX8_firstMinutes 1 (some .int) 1 := ⟨sn_ls4 km_RX8_174 kst_X8_firstMinutes ki_RX8 kc_X8_firstMinutes, kva_6, kvb_6, kpd_6⟩
theorem km_RX8_180 : Cond.methodLink RX8 180 yX2_window ∈ sn_gw := sn_gwI (lb_2 (lt_16 (lt_16 (lt_16 (lt_16 (lt_16 (lt_16 (lt_16 (lt_16 (lt_16 (lt_16 (lt_14 lt_h)))))))))))) gw_methodLink
theorem kl_RX8_180 : sn_LV RX8 180 yX2_window cX2_window 3 (some .int) 1 := ⟨sn_lv5 km_RX8_180 kin_X2_window ks_X2_window ki_RX2 kc_X2_window, kva_5, kvb_5, kpd_6⟩
theorem kc_X8_minutesCovered : Cond.code yX8_minutesCovered cX8_minutesCovered 4 (some .int) ∈ sn_gw := sn_gwI (lb_2 (lt_16 (lt_16 (lt_16 (lt_16 (lt_16 (lt_16 (lt_16 (lt_16 (lt_16 (lt_16 (lt_13 lt_h)))))))))))) gw_code
theorem km_RX8_177 : Cond.methodLink RX8 177 yX8_minutesCovered ∈ sn_gw := sn_gwI (lb_2 (lt_16 (lt_16 (lt_16 (lt_16 (lt_16 (lt_16 (lt_16 (lt_16 (lt_16 (lt_16 (lt_10 lt_h)))))))))))) gw_methodLink
theorem kin_X8_minutesCovered : Cond.instanceMethod yX8_minutesCovered ∈ sn_gw := sn_gwI (lb_2 (lt_16 (lt_16 (lt_16 (lt_16 (lt_16 (lt_16 (lt_16 (lt_16 (lt_16 (lt_16 (lt_12 lt_h)))))))))))) gw_instanceMethod
theorem ks_X8_minutesCovered : Cond.selects RX8 yX8_minutesCovered yX8_minutesCovered ∈ sn_gw := sn_gwS (q := (yX8_minutesCovered, 12)) (List.mem_of_getElem? (i := 21) rfl) gw_selects
theorem kl_RX8_177 : sn_LV RX8 177 yX8_minutesCovered cX8_minutesCovered 4 (some .int) 1 := ⟨sn_lv5 km_RX8_177 kin_X8_minutesCovered ks_X8_minutesCovered ki_RX8 kc_X8_minutesCovered, kva_6, kvb_6, kpd_6⟩
theorem kf_RX8_48 : Cond.fieldLink RX8 48 (TX8 7).1 (TX8 7).2.1 (TX8 7).2.2.1 ∈ sn_gw := sn_gwI (lb_1 (lt_16 (lt_16 (lt_16 (lt_7 lt_h))))) gw_fieldLink
theorem fd_RX8_48 : sn_Fd RX8 48 8 7 := ⟨RX8, TX8, 12, rfl, ug_X8, by decide, kf_RX8_48⟩
theorem kf_RX8_186 : Cond.fieldLink RX8 186 (TX0 5).1 (TX0 5).2.1 (TX0 5).2.2.1 ∈ sn_gw := sn_gwI (lb_0 (lt_16 (lt_16 (lt_16 (lt_16 (lt_16 (lt_16 (lt_16 (lt_16 (lt_16 (lt_6 lt_h))))))))))) gw_fieldLink
theorem fd_RX8_186 : sn_Fd RX8 186 0 5 := ⟨RX0, TX0, 14, rfl, ug_X0, by decide, kf_RX8_186⟩
theorem km_RX8_183 : Cond.methodLink RX8 183 yX0_copyFrom ∈ sn_gw := sn_gwI (lb_2 (lt_16 (lt_16 (lt_16 (lt_16 (lt_16 (lt_16 (lt_16 (lt_16 (lt_16 (lt_16 (lt_16 (lt_14 lt_h))))))))))))) gw_methodLink
theorem kl_RX8_183 : sn_LV RX8 183 yX0_copyFrom cX0_copyFrom 2 none 1 := ⟨sn_lv5 km_RX8_183 kin_X0_copyFrom ks_X0_copyFrom ki_RX0 kc_X0_copyFrom, kva_7, kvb_7, kpd_36⟩
theorem kf_RX8_192 : Cond.fieldLink RX8 192 (TX0 6).1 (TX0 6).2.1 (TX0 6).2.2.1 ∈ sn_gw := sn_gwI (lb_0 (lt_16 (lt_16 (lt_16 (lt_16 (lt_16 (lt_16 (lt_16 (lt_16 (lt_16 (lt_9 lt_h))))))))))) gw_fieldLink
theorem fd_RX8_192 : sn_Fd RX8 192 0 6 := ⟨RX0, TX0, 14, rfl, ug_X0, by decide, kf_RX8_192⟩
theorem kk_RX8_195 : Cond.constant RX8 195 (1000000) ∈ sn_gw := sn_gwI (lb_2 (lt_16 (lt_16 (lt_16 (lt_16 (lt_16 (lt_16 (lt_16 (lt_16 (lt_16 (lt_16 (lt_16 (lt_16 (lt_6 lt_h)))))))))))))) rfl
theorem kf_RX8_196 : Cond.fieldLink RX8 196 (TX0 7).1 (TX0 7).2.1 (TX0 7).2.2.1 ∈ sn_gw := sn_gwI (lb_0 (lt_16 (lt_16 (lt_16 (lt_16 (lt_16 (lt_16 (lt_16 (lt_16 (lt_16 (lt_12 lt_h))))))))))) gw_fieldLink
theorem fd_RX8_196 : sn_Fd RX8 196 0 7 := ⟨RX0, TX0, 14, rfl, ug_X0, by decide, kf_RX8_196⟩
theorem kf_RX8_205 : Cond.fieldLink RX8 205 (TX0 3).1 (TX0 3).2.1 (TX0 3).2.2.1 ∈ sn_gw := sn_gwI (lb_0 (lt_16 (lt_16 (lt_16 (lt_16 (lt_16 (lt_16 (lt_16 (lt_16 (lt_16 lt_h)))))))))) gw_fieldLink
theorem fp_RX8_205 : sn_Fp RX8 205 0 3 .int := ⟨RX0, TX0, 14, tyX0, rfl, ug_X0, by decide, kf_RX8_205, tyX0_ok, nmX0, rfl, tyX0_ok 3 (by decide)⟩
theorem kc_X8_isNet : Cond.code yX8_isNet cX8_isNet 2 (some .boolean) ∈ sn_gw := sn_gwI (lb_2 (lt_16 (lt_16 (lt_16 (lt_16 (lt_16 (lt_16 (lt_16 (lt_16 (lt_16 (lt_16 (lt_16 (lt_16 (lt_16 (lt_10 lt_h))))))))))))))) gw_code
theorem km_RX8_199 : Cond.methodLink RX8 199 yX8_isNet ∈ sn_gw := sn_gwI (lb_2 (lt_16 (lt_16 (lt_16 (lt_16 (lt_16 (lt_16 (lt_16 (lt_16 (lt_16 (lt_16 (lt_16 (lt_16 (lt_16 (lt_7 lt_h))))))))))))))) gw_methodLink
theorem kin_X8_isNet : Cond.instanceMethod yX8_isNet ∈ sn_gw := sn_gwI (lb_2 (lt_16 (lt_16 (lt_16 (lt_16 (lt_16 (lt_16 (lt_16 (lt_16 (lt_16 (lt_16 (lt_16 (lt_16 (lt_16 (lt_9 lt_h))))))))))))))) gw_instanceMethod
theorem ks_X8_isNet : Cond.selects RX8 yX8_isNet yX8_isNet ∈ sn_gw := sn_gwS (q := (yX8_isNet, 12)) (List.mem_of_getElem? (i := 22) rfl) gw_selects
theorem kl_RX8_199 : sn_LV RX8 199 yX8_isNet cX8_isNet 2 (some .boolean) 1 := ⟨sn_lv5 km_RX8_199 kin_X8_isNet ks_X8_isNet ki_RX8 kc_X8_isNet, kva_6, kvb_6, kpd_16⟩
theorem kc_X8_totalWithout : Cond.code yX8_totalWithout cX8_totalWithout 2 (some .int) ∈ sn_gw := sn_gwI (lb_2 (lt_16 (lt_16 (lt_16 (lt_16 (lt_16 (lt_16 (lt_16 (lt_16 (lt_16 (lt_16 (lt_16 (lt_16 (lt_16 (lt_14 lt_h))))))))))))))) gw_code
theorem km_RX8_202 : Cond.methodLink RX8 202 yX8_totalWithout ∈ sn_gw := sn_gwI (lb_2 (lt_16 (lt_16 (lt_16 (lt_16 (lt_16 (lt_16 (lt_16 (lt_16 (lt_16 (lt_16 (lt_16 (lt_16 (lt_16 (lt_11 lt_h))))))))))))))) gw_methodLink
theorem kin_X8_totalWithout : Cond.instanceMethod yX8_totalWithout ∈ sn_gw := sn_gwI (lb_2 (lt_16 (lt_16 (lt_16 (lt_16 (lt_16 (lt_16 (lt_16 (lt_16 (lt_16 (lt_16 (lt_16 (lt_16 (lt_16 (lt_13 lt_h))))))))))))))) gw_instanceMethod
theorem ks_X8_totalWithout : Cond.selects RX8 yX8_totalWithout yX8_totalWithout ∈ sn_gw := sn_gwS (q := (yX8_totalWithout, 12)) (List.mem_of_getElem? (i := 23) rfl) gw_selects
theorem kl_RX8_202 : sn_LV RX8 202 yX8_totalWithout cX8_totalWithout 2 (some .int) 1 := ⟨sn_lv5 km_RX8_202 kin_X8_totalWithout ks_X8_totalWithout ki_RX8 kc_X8_totalWithout, kva_6, kvb_6, kpd_6⟩
theorem kf_RX8_54 : Cond.fieldLink RX8 54 (TX8 8).1 (TX8 8).2.1 (TX8 8).2.2.1 ∈ sn_gw := sn_gwI (lb_1 (lt_16 (lt_16 (lt_16 (lt_8 lt_h))))) gw_fieldLink
theorem fd_RX8_54 : sn_Fd RX8 54 8 8 := ⟨RX8, TX8, 12, rfl, ug_X8, by decide, kf_RX8_54⟩
theorem km_RX8_234 : Cond.methodLink RX8 234 yX3_reckon ∈ sn_gw := sn_gwI (lb_2 (lt_16 (lt_16 (lt_16 (lt_16 (lt_16 (lt_16 (lt_16 (lt_16 (lt_16 (lt_16 (lt_16 (lt_16 (lt_16 (lt_16 (lt_11 lt_h)))))))))))))))) gw_methodLink
theorem kl_RX8_234 : sn_LV RX8 234 yX3_reckon cX3_reckon 7 none 3 := ⟨sn_lv5 km_RX8_234 kin_X3_reckon ks_X3_reckon ki_RX3 kc_X3_reckon, kva_10, kvb_10, kpd_34⟩
theorem kf_RX8_212 : Cond.fieldLink RX8 212 (TX3 0).1 (TX3 0).2.1 (TX3 0).2.2.1 ∈ sn_gw := sn_gwI (lb_0 (lt_16 (lt_16 (lt_16 (lt_16 (lt_16 (lt_16 (lt_16 (lt_16 (lt_16 (lt_16 (lt_16 (lt_16 (lt_14 lt_h)))))))))))))) gw_fieldLink
theorem fd_RX8_212 : sn_Fd RX8 212 3 0 := ⟨RX3, TX3, 4, rfl, ug_X3, by decide, kf_RX8_212⟩
theorem kc_X8_ledgerNow : Cond.code yX8_ledgerNow cX8_ledgerNow 1 (some (.object "PepperPolicy$Ledger")) ∈ sn_gw := sn_gwI (lb_2 (lt_16 (lt_16 (lt_16 (lt_16 (lt_16 (lt_16 (lt_16 (lt_16 (lt_16 (lt_16 (lt_16 (lt_16 (lt_16 (lt_16 (lt_10 lt_h)))))))))))))))) gw_code
theorem km_RX8_208 : Cond.methodLink RX8 208 yX8_ledgerNow ∈ sn_gw := sn_gwI (lb_2 (lt_16 (lt_16 (lt_16 (lt_16 (lt_16 (lt_16 (lt_16 (lt_16 (lt_16 (lt_16 (lt_16 (lt_16 (lt_16 (lt_16 (lt_7 lt_h)))))))))))))))) gw_methodLink
theorem kin_X8_ledgerNow : Cond.instanceMethod yX8_ledgerNow ∈ sn_gw := sn_gwI (lb_2 (lt_16 (lt_16 (lt_16 (lt_16 (lt_16 (lt_16 (lt_16 (lt_16 (lt_16 (lt_16 (lt_16 (lt_16 (lt_16 (lt_16 (lt_9 lt_h)))))))))))))))) gw_instanceMethod
theorem ks_X8_ledgerNow : Cond.selects RX8 yX8_ledgerNow yX8_ledgerNow ∈ sn_gw := sn_gwS (q := (yX8_ledgerNow, 12)) (List.mem_of_getElem? (i := 24) rfl) gw_selects
theorem kl_RX8_208 : sn_LV RX8 208 yX8_ledgerNow cX8_ledgerNow 1 (some (.object "PepperPolicy$Ledger")) 0 := ⟨sn_lv5 km_RX8_208 kin_X8_ledgerNow ks_X8_ledgerNow ki_RX8 kc_X8_ledgerNow, kva_6, kvb_6, kpd_40⟩
theorem kf_RX8_215 : Cond.fieldLink RX8 215 (TX3 1).1 (TX3 1).2.1 (TX3 1).2.2.1 ∈ sn_gw := sn_gwI (lb_0 (lt_16 (lt_16 (lt_16 (lt_16 (lt_16 (lt_16 (lt_16 (lt_16 (lt_16 (lt_16 (lt_16 (lt_16 (lt_16 lt_h)))))))))))))) gw_fieldLink
theorem fd_RX8_215 : sn_Fd RX8 215 3 1 := ⟨RX3, TX3, 4, rfl, ug_X3, by decide, kf_RX8_215⟩
theorem kf_RX8_218 : Cond.fieldLink RX8 218 (TX3 2).1 (TX3 2).2.1 (TX3 2).2.2.1 ∈ sn_gw := sn_gwI (lb_0 (lt_16 (lt_16 (lt_16 (lt_16 (lt_16 (lt_16 (lt_16 (lt_16 (lt_16 (lt_16 (lt_16 (lt_16 (lt_16 (lt_2 lt_h))))))))))))))) gw_fieldLink
theorem fd_RX8_218 : sn_Fd RX8 218 3 2 := ⟨RX3, TX3, 4, rfl, ug_X3, by decide, kf_RX8_218⟩
theorem kk_RX8_221 : Cond.constant RX8 221 (-100000) ∈ sn_gw := sn_gwI (lb_3 (lt_16 (lt_11 lt_h))) rfl
theorem km_RX8_222 : Cond.methodLink RX8 222 yX3_moneyAt ∈ sn_gw := sn_gwI (lb_3 (lt_16 (lt_16 lt_h))) gw_methodLink
theorem kl_RX8_222 : sn_LV RX8 222 yX3_moneyAt cX3_moneyAt 4 (some .int) 1 := ⟨sn_lv5 km_RX8_222 kin_X3_moneyAt ks_X3_moneyAt ki_RX3 kc_X3_moneyAt, kva_10, kvb_10, kpd_6⟩
theorem kc_X3_poorestMinute : Cond.code yX3_poorestMinute cX3_poorestMinute 4 (some .int) ∈ sn_gw := sn_gwI (lb_3 (lt_16 (lt_16 (lt_11 lt_h)))) gw_code
theorem km_RX8_225 : Cond.methodLink RX8 225 yX3_poorestMinute ∈ sn_gw := sn_gwI (lb_3 (lt_16 (lt_16 (lt_8 lt_h)))) gw_methodLink
theorem kin_X3_poorestMinute : Cond.instanceMethod yX3_poorestMinute ∈ sn_gw := sn_gwI (lb_3 (lt_16 (lt_16 (lt_9 lt_h)))) gw_instanceMethod
theorem ks_X3_poorestMinute : Cond.selects RX3 yX3_poorestMinute yX3_poorestMinute ∈ sn_gw := sn_gwI (lb_3 (lt_16 (lt_16 (lt_10 lt_h)))) gw_selects
theorem kl_RX8_225 : sn_LV RX8 225 yX3_poorestMinute cX3_poorestMinute 4 (some .int) 1 := ⟨sn_lv5 km_RX8_225 kin_X3_poorestMinute ks_X3_poorestMinute ki_RX3 kc_X3_poorestMinute, kva_10, kvb_10, kpd_6⟩
theorem km_RX8_228 : Cond.methodLink RX8 228 yX3_firstBelow ∈ sn_gw := sn_gwI (lb_3 (lt_16 (lt_16 (lt_16 (lt_1 lt_h))))) gw_methodLink
theorem kl_RX8_228 : sn_LV RX8 228 yX3_firstBelow cX3_firstBelow 3 (some .int) 1 := ⟨sn_lv5 km_RX8_228 kin_X3_firstBelow ks_X3_firstBelow ki_RX3 kc_X3_firstBelow, kva_10, kvb_10, kpd_6⟩
theorem kc_X8_moneyInTheEnd : Cond.code yX8_moneyInTheEnd cX8_moneyInTheEnd 2 (some .int) ∈ sn_gw := sn_gwI (lb_3 (lt_16 (lt_16 (lt_16 (lt_16 (lt_4 lt_h)))))) gw_code
theorem km_RX8_231 : Cond.methodLink RX8 231 yX8_moneyInTheEnd ∈ sn_gw := sn_gwI (lb_3 (lt_16 (lt_16 (lt_16 (lt_16 (lt_1 lt_h)))))) gw_methodLink
theorem kin_X8_moneyInTheEnd : Cond.instanceMethod yX8_moneyInTheEnd ∈ sn_gw := sn_gwI (lb_3 (lt_16 (lt_16 (lt_16 (lt_16 (lt_3 lt_h)))))) gw_instanceMethod
theorem ks_X8_moneyInTheEnd : Cond.selects RX8 yX8_moneyInTheEnd yX8_moneyInTheEnd ∈ sn_gw := sn_gwS (q := (yX8_moneyInTheEnd, 12)) (List.mem_of_getElem? (i := 25) rfl) gw_selects
theorem kl_RX8_231 : sn_LV RX8 231 yX8_moneyInTheEnd cX8_moneyInTheEnd 2 (some .int) 1 := ⟨sn_lv5 km_RX8_231 kin_X8_moneyInTheEnd ks_X8_moneyInTheEnd ki_RX8 kc_X8_moneyInTheEnd, kva_6, kvb_6, kpd_6⟩
theorem km_RX8_250 : Cond.methodLink RX8 250 yX3_claimBy ∈ sn_gw := sn_gwI (lb_3 (lt_16 (lt_16 (lt_16 (lt_16 (lt_16 (lt_9 lt_h))))))) gw_methodLink
theorem kl_RX8_250 : sn_LS RX8 250 yX3_claimBy cX3_claimBy 8 (some .int) 5 := ⟨sn_ls4 km_RX8_250 kst_X3_claimBy ki_RX3 kc_X3_claimBy, kva_10, kvb_10, kpd_33⟩
theorem kc_X8_claimAsIfOf : Cond.code yX8_claimAsIfOf cX8_claimAsIfOf 3 (some .int) ∈ sn_gw := sn_gwI (lb_3 (lt_16 (lt_16 (lt_16 (lt_16 (lt_16 (lt_8 lt_h))))))) gw_code
theorem km_RX8_247 : Cond.methodLink RX8 247 yX8_claimAsIfOf ∈ sn_gw := sn_gwI (lb_3 (lt_16 (lt_16 (lt_16 (lt_16 (lt_16 (lt_5 lt_h))))))) gw_methodLink
theorem kin_X8_claimAsIfOf : Cond.instanceMethod yX8_claimAsIfOf ∈ sn_gw := sn_gwI (lb_3 (lt_16 (lt_16 (lt_16 (lt_16 (lt_16 (lt_7 lt_h))))))) gw_instanceMethod
theorem ks_X8_claimAsIfOf : Cond.selects RX8 yX8_claimAsIfOf yX8_claimAsIfOf ∈ sn_gw := sn_gwS (q := (yX8_claimAsIfOf, 12)) (List.mem_of_getElem? (i := 28) rfl) gw_selects
theorem kl_RX8_247 : sn_LV RX8 247 yX8_claimAsIfOf cX8_claimAsIfOf 3 (some .int) 2 := ⟨sn_lv5 km_RX8_247 kin_X8_claimAsIfOf ks_X8_claimAsIfOf ki_RX8 kc_X8_claimAsIfOf, kva_6, kvb_6, kpd_13⟩
theorem kc_X8_gainBy : Cond.code yX8_gainBy cX8_gainBy 3 (some .int) ∈ sn_gw := sn_gwI (lb_3 (lt_16 (lt_16 (lt_16 (lt_16 (lt_16 (lt_4 lt_h))))))) gw_code
theorem km_RX8_241 : Cond.methodLink RX8 241 yX8_gainBy ∈ sn_gw := sn_gwI (lb_3 (lt_16 (lt_16 (lt_16 (lt_16 (lt_16 (lt_1 lt_h))))))) gw_methodLink
theorem kin_X8_gainBy : Cond.instanceMethod yX8_gainBy ∈ sn_gw := sn_gwI (lb_3 (lt_16 (lt_16 (lt_16 (lt_16 (lt_16 (lt_3 lt_h))))))) gw_instanceMethod
theorem ks_X8_gainBy : Cond.selects RX8 yX8_gainBy yX8_gainBy ∈ sn_gw := sn_gwS (q := (yX8_gainBy, 12)) (List.mem_of_getElem? (i := 27) rfl) gw_selects
theorem kl_RX8_241 : sn_LV RX8 241 yX8_gainBy cX8_gainBy 3 (some .int) 2 := ⟨sn_lv5 km_RX8_241 kin_X8_gainBy ks_X8_gainBy ki_RX8 kc_X8_gainBy, kva_6, kvb_6, kpd_13⟩
theorem kc_X8_bestOfMenu : Cond.code yX8_bestOfMenu cX8_bestOfMenu 6 (some .int) ∈ sn_gw := sn_gwI (lb_3 (lt_16 (lt_16 (lt_16 (lt_16 (lt_16 lt_h)))))) gw_code
theorem km_RX8_238 : Cond.methodLink RX8 238 yX8_bestOfMenu ∈ sn_gw := sn_gwI (lb_3 (lt_16 (lt_16 (lt_16 (lt_16 (lt_13 lt_h)))))) gw_methodLink
theorem kin_X8_bestOfMenu : Cond.instanceMethod yX8_bestOfMenu ∈ sn_gw := sn_gwI (lb_3 (lt_16 (lt_16 (lt_16 (lt_16 (lt_15 lt_h)))))) gw_instanceMethod
theorem ks_X8_bestOfMenu : Cond.selects RX8 yX8_bestOfMenu yX8_bestOfMenu ∈ sn_gw := sn_gwS (q := (yX8_bestOfMenu, 12)) (List.mem_of_getElem? (i := 26) rfl) gw_selects
theorem kl_RX8_238 : sn_LV RX8 238 yX8_bestOfMenu cX8_bestOfMenu 6 (some .int) 1 := ⟨sn_lv5 km_RX8_238 kin_X8_bestOfMenu ks_X8_bestOfMenu ki_RX8 kc_X8_bestOfMenu, kva_6, kvb_6, kpd_6⟩
theorem kc_X8_priceFor : Cond.code yX8_priceFor cX8_priceFor 6 (some .int) ∈ sn_gw := sn_gwI (lb_3 (lt_16 (lt_16 (lt_16 (lt_16 (lt_16 (lt_16 (lt_5 lt_h)))))))) gw_code
theorem km_RX8_244 : Cond.methodLink RX8 244 yX8_priceFor ∈ sn_gw := sn_gwI (lb_3 (lt_16 (lt_16 (lt_16 (lt_16 (lt_16 (lt_16 (lt_2 lt_h)))))))) gw_methodLink
theorem kin_X8_priceFor : Cond.instanceMethod yX8_priceFor ∈ sn_gw := sn_gwI (lb_3 (lt_16 (lt_16 (lt_16 (lt_16 (lt_16 (lt_16 (lt_4 lt_h)))))))) gw_instanceMethod
theorem ks_X8_priceFor : Cond.selects RX8 yX8_priceFor yX8_priceFor ∈ sn_gw := sn_gwS (q := (yX8_priceFor, 12)) (List.mem_of_getElem? (i := 29) rfl) gw_selects
theorem kl_RX8_244 : sn_LV RX8 244 yX8_priceFor cX8_priceFor 6 (some .int) 2 := ⟨sn_lv5 km_RX8_244 kin_X8_priceFor ks_X8_priceFor ki_RX8 kc_X8_priceFor, kva_6, kvb_6, kpd_13⟩
theorem kf_RX8_61 : Cond.fieldLink RX8 61 (TX8 9).1 (TX8 9).2.1 (TX8 9).2.2.1 ∈ sn_gw := sn_gwI (lb_1 (lt_16 (lt_16 (lt_16 (lt_9 lt_h))))) gw_fieldLink
theorem fd_RX8_61 : sn_Fd RX8 61 8 9 := ⟨RX8, TX8, 12, rfl, ug_X8, by decide, kf_RX8_61⟩
theorem kc_X1_reckon : Cond.code yX1_reckon cX1_reckon 7 none ∈ sn_gw := sn_gwI (lb_3 (lt_16 (lt_16 (lt_16 (lt_16 (lt_16 (lt_16 (lt_13 lt_h)))))))) gw_code
theorem km_RX8_254 : Cond.methodLink RX8 254 yX1_reckon ∈ sn_gw := sn_gwI (lb_3 (lt_16 (lt_16 (lt_16 (lt_16 (lt_16 (lt_16 (lt_10 lt_h)))))))) gw_methodLink
theorem kin_X1_reckon : Cond.instanceMethod yX1_reckon ∈ sn_gw := sn_gwI (lb_3 (lt_16 (lt_16 (lt_16 (lt_16 (lt_16 (lt_16 (lt_11 lt_h)))))))) gw_instanceMethod
theorem ks_X1_reckon : Cond.selects RX1 yX1_reckon yX1_reckon ∈ sn_gw := sn_gwI (lb_3 (lt_16 (lt_16 (lt_16 (lt_16 (lt_16 (lt_16 (lt_12 lt_h)))))))) gw_selects
theorem kl_RX8_254 : sn_LV RX8 254 yX1_reckon cX1_reckon 7 none 3 := ⟨sn_lv5 km_RX8_254 kin_X1_reckon ks_X1_reckon ki_RX1 kc_X1_reckon, kva_9, kvb_9, kpd_34⟩
theorem kc_X1_fewest : Cond.code yX1_fewest cX1_fewest 1 (some .int) ∈ sn_gw := sn_gwI (lb_3 (lt_16 (lt_16 (lt_16 (lt_16 (lt_16 (lt_16 (lt_16 (lt_16 lt_h))))))))) gw_code
theorem km_RX8_255 : Cond.methodLink RX8 255 yX1_fewest ∈ sn_gw := sn_gwI (lb_3 (lt_16 (lt_16 (lt_16 (lt_16 (lt_16 (lt_16 (lt_16 (lt_13 lt_h))))))))) gw_methodLink
theorem kin_X1_fewest : Cond.instanceMethod yX1_fewest ∈ sn_gw := sn_gwI (lb_3 (lt_16 (lt_16 (lt_16 (lt_16 (lt_16 (lt_16 (lt_16 (lt_14 lt_h))))))))) gw_instanceMethod
theorem ks_X1_fewest : Cond.selects RX1 yX1_fewest yX1_fewest ∈ sn_gw := sn_gwI (lb_3 (lt_16 (lt_16 (lt_16 (lt_16 (lt_16 (lt_16 (lt_16 (lt_15 lt_h))))))))) gw_selects
theorem kl_RX8_255 : sn_LV RX8 255 yX1_fewest cX1_fewest 1 (some .int) 0 := ⟨sn_lv5 km_RX8_255 kin_X1_fewest ks_X1_fewest ki_RX1 kc_X1_fewest, kva_9, kvb_9, kpd_7⟩
theorem kc_X1_minutesHeld : Cond.code yX1_minutesHeld cX1_minutesHeld 1 (some .int) ∈ sn_gw := sn_gwI (lb_3 (lt_16 (lt_16 (lt_16 (lt_16 (lt_16 (lt_16 (lt_16 (lt_16 (lt_8 lt_h)))))))))) gw_code
theorem km_RX8_258 : Cond.methodLink RX8 258 yX1_minutesHeld ∈ sn_gw := sn_gwI (lb_3 (lt_16 (lt_16 (lt_16 (lt_16 (lt_16 (lt_16 (lt_16 (lt_16 (lt_5 lt_h)))))))))) gw_methodLink
theorem kin_X1_minutesHeld : Cond.instanceMethod yX1_minutesHeld ∈ sn_gw := sn_gwI (lb_3 (lt_16 (lt_16 (lt_16 (lt_16 (lt_16 (lt_16 (lt_16 (lt_16 (lt_6 lt_h)))))))))) gw_instanceMethod
theorem ks_X1_minutesHeld : Cond.selects RX1 yX1_minutesHeld yX1_minutesHeld ∈ sn_gw := sn_gwI (lb_3 (lt_16 (lt_16 (lt_16 (lt_16 (lt_16 (lt_16 (lt_16 (lt_16 (lt_7 lt_h)))))))))) gw_selects
theorem kl_RX8_258 : sn_LV RX8 258 yX1_minutesHeld cX1_minutesHeld 1 (some .int) 0 := ⟨sn_lv5 km_RX8_258 kin_X1_minutesHeld ks_X1_minutesHeld ki_RX1 kc_X1_minutesHeld, kva_9, kvb_9, kpd_7⟩
theorem kf_RX8_264 : Cond.fieldLink RX8 264 (TX0 8).1 (TX0 8).2.1 (TX0 8).2.2.1 ∈ sn_gw := sn_gwI (lb_0 (lt_16 (lt_16 (lt_16 (lt_16 (lt_16 (lt_16 (lt_16 (lt_16 (lt_16 (lt_14 lt_h))))))))))) gw_fieldLink
theorem fd_RX8_264 : sn_Fd RX8 264 0 8 := ⟨RX0, TX0, 14, rfl, ug_X0, by decide, kf_RX8_264⟩
theorem km_RX8_267 : Cond.methodLink RX8 267 yX0_live ∈ sn_gw := sn_gwI (lb_3 (lt_16 (lt_16 (lt_16 (lt_16 (lt_16 (lt_16 (lt_16 (lt_16 (lt_16 (lt_1 lt_h))))))))))) gw_methodLink
theorem kl_RX8_267 : sn_LV RX8 267 yX0_live cX0_live 4 none 2 := ⟨sn_lv5 km_RX8_267 kin_X0_live ks_X0_live ki_RX0 kc_X0_live, kva_7, kvb_7, kpd_3⟩
theorem kc_X8_minutesOfFraud : Cond.code yX8_minutesOfFraud cX8_minutesOfFraud 6 (some .int) ∈ sn_gw := sn_gwI (lb_3 (lt_16 (lt_16 (lt_16 (lt_16 (lt_16 (lt_16 (lt_16 (lt_16 (lt_16 lt_h)))))))))) gw_code
theorem km_RX8_261 : Cond.methodLink RX8 261 yX8_minutesOfFraud ∈ sn_gw := sn_gwI (lb_3 (lt_16 (lt_16 (lt_16 (lt_16 (lt_16 (lt_16 (lt_16 (lt_16 (lt_13 lt_h)))))))))) gw_methodLink
theorem kin_X8_minutesOfFraud : Cond.instanceMethod yX8_minutesOfFraud ∈ sn_gw := sn_gwI (lb_3 (lt_16 (lt_16 (lt_16 (lt_16 (lt_16 (lt_16 (lt_16 (lt_16 (lt_15 lt_h)))))))))) gw_instanceMethod
theorem ks_X8_minutesOfFraud : Cond.selects RX8 yX8_minutesOfFraud yX8_minutesOfFraud ∈ sn_gw := sn_gwS (q := (yX8_minutesOfFraud, 12)) (List.mem_of_getElem? (i := 31) rfl) gw_selects
theorem kl_RX8_261 : sn_LV RX8 261 yX8_minutesOfFraud cX8_minutesOfFraud 6 (some .int) 1 := ⟨sn_lv5 km_RX8_261 kin_X8_minutesOfFraud ks_X8_minutesOfFraud ki_RX8 kc_X8_minutesOfFraud, kva_6, kvb_6, kpd_6⟩
theorem kf_RX8_37 : Cond.fieldLink RX8 37 (TX8 5).1 (TX8 5).2.1 (TX8 5).2.2.1 ∈ sn_gw := sn_gwI (lb_1 (lt_16 (lt_16 (lt_16 (lt_5 lt_h))))) gw_fieldLink
theorem fd_RX8_37 : sn_Fd RX8 37 8 5 := ⟨RX8, TX8, 12, rfl, ug_X8, by decide, kf_RX8_37⟩
theorem kf_RX8_293 : Cond.fieldLink RX8 293 (TX6 2).1 (TX6 2).2.1 (TX6 2).2.2.1 ∈ sn_gw := sn_gwI (lb_0 (lt_16 (lt_16 (lt_16 (lt_16 (lt_16 (lt_16 (lt_16 (lt_7 lt_h))))))))) gw_fieldLink
theorem fd_RX8_293 : sn_Fd RX8 293 6 2 := ⟨RX6, TX6, 3, rfl, ug_X6, by decide, kf_RX8_293⟩
theorem kf_RX8_68 : Cond.fieldLink RX8 68 (TX8 10).1 (TX8 10).2.1 (TX8 10).2.2.1 ∈ sn_gw := sn_gwI (lb_1 (lt_16 (lt_16 (lt_16 (lt_10 lt_h))))) gw_fieldLink
theorem fd_RX8_68 : sn_Fd RX8 68 8 10 := ⟨RX8, TX8, 12, rfl, ug_X8, by decide, kf_RX8_68⟩
theorem kf_RX8_299 : Cond.fieldLink RX8 299 (TX6 0).1 (TX6 0).2.1 (TX6 0).2.2.1 ∈ sn_gw := sn_gwI (lb_0 (lt_16 (lt_16 (lt_16 (lt_16 (lt_16 (lt_16 (lt_16 (lt_3 lt_h))))))))) gw_fieldLink
theorem fd_RX8_299 : sn_Fd RX8 299 6 0 := ⟨RX6, TX6, 3, rfl, ug_X6, by decide, kf_RX8_299⟩
theorem kf_RX8_303 : Cond.fieldLink RX8 303 (TX7 0).1 (TX7 0).2.1 (TX7 0).2.2.1 ∈ sn_gw := sn_gwI (lb_1 (lt_1 lt_h)) gw_fieldLink
theorem fd_RX8_303 : sn_Fd RX8 303 7 0 := ⟨RX7, TX7, 5, rfl, ug_X7, by decide, kf_RX8_303⟩
theorem kc_X7_seekIn : Cond.code yX7_seekIn cX7_seekIn 5 none ∈ sn_gw := sn_gwI (lb_3 (lt_16 (lt_16 (lt_16 (lt_16 (lt_16 (lt_16 (lt_16 (lt_16 (lt_16 (lt_16 (lt_13 lt_h)))))))))))) gw_code
theorem km_RX8_306 : Cond.methodLink RX8 306 yX7_seekIn ∈ sn_gw := sn_gwI (lb_3 (lt_16 (lt_16 (lt_16 (lt_16 (lt_16 (lt_16 (lt_16 (lt_16 (lt_16 (lt_16 (lt_10 lt_h)))))))))))) gw_methodLink
theorem kin_X7_seekIn : Cond.instanceMethod yX7_seekIn ∈ sn_gw := sn_gwI (lb_3 (lt_16 (lt_16 (lt_16 (lt_16 (lt_16 (lt_16 (lt_16 (lt_16 (lt_16 (lt_16 (lt_11 lt_h)))))))))))) gw_instanceMethod
theorem ks_X7_seekIn : Cond.selects RX7 yX7_seekIn yX7_seekIn ∈ sn_gw := sn_gwI (lb_3 (lt_16 (lt_16 (lt_16 (lt_16 (lt_16 (lt_16 (lt_16 (lt_16 (lt_16 (lt_16 (lt_12 lt_h)))))))))))) gw_selects
theorem kl_RX8_306 : sn_LV RX8 306 yX7_seekIn cX7_seekIn 5 none 2 := ⟨sn_lv5 km_RX8_306 kin_X7_seekIn ks_X7_seekIn ki_RX7 kc_X7_seekIn, kva_14, kvb_14, kpd_41⟩
theorem kc_X6_isSlot : Cond.code yX6_isSlot cX6_isSlot 1 (some .boolean) ∈ sn_gw := sn_gwI (lb_3 (lt_16 (lt_16 (lt_16 (lt_16 (lt_16 (lt_16 (lt_16 (lt_16 (lt_16 (lt_16 lt_h))))))))))) gw_code
theorem km_RX8_287 : Cond.methodLink RX8 287 yX6_isSlot ∈ sn_gw := sn_gwI (lb_3 (lt_16 (lt_16 (lt_16 (lt_16 (lt_16 (lt_16 (lt_16 (lt_16 (lt_16 (lt_14 lt_h))))))))))) gw_methodLink
theorem kst_X6_isSlot : Cond.static yX6_isSlot ∈ sn_gw := sn_gwI (lb_3 (lt_16 (lt_16 (lt_16 (lt_16 (lt_16 (lt_16 (lt_16 (lt_16 (lt_16 (lt_15 lt_h))))))))))) gw_static
theorem kl_RX8_287 : sn_LS RX8 287 yX6_isSlot cX6_isSlot 1 (some .boolean) 1 := ⟨sn_ls4 km_RX8_287 kst_X6_isSlot ki_RX6 kc_X6_isSlot, kva_13, kvb_13, kpd_16⟩
theorem km_RX8_290 : Cond.methodLink RX8 290 yX6_has ∈ sn_gw := sn_gwI (lb_3 (lt_16 (lt_16 (lt_16 (lt_16 (lt_16 (lt_16 (lt_16 (lt_16 (lt_16 (lt_16 (lt_1 lt_h)))))))))))) gw_methodLink
theorem kl_RX8_290 : sn_LV RX8 290 yX6_has cX6_has 2 (some .boolean) 1 := ⟨sn_lv5 km_RX8_290 kin_X6_has ks_X6_has ki_RX6 kc_X6_has, kva_13, kvb_13, kpd_16⟩
theorem kc_X7_forget : Cond.code yX7_forget cX7_forget 1 none ∈ sn_gw := sn_gwI (lb_3 (lt_16 (lt_16 (lt_16 (lt_16 (lt_16 (lt_16 (lt_16 (lt_16 (lt_16 (lt_16 (lt_8 lt_h)))))))))))) gw_code
theorem km_RX8_296 : Cond.methodLink RX8 296 yX7_forget ∈ sn_gw := sn_gwI (lb_3 (lt_16 (lt_16 (lt_16 (lt_16 (lt_16 (lt_16 (lt_16 (lt_16 (lt_16 (lt_16 (lt_5 lt_h)))))))))))) gw_methodLink
theorem kin_X7_forget : Cond.instanceMethod yX7_forget ∈ sn_gw := sn_gwI (lb_3 (lt_16 (lt_16 (lt_16 (lt_16 (lt_16 (lt_16 (lt_16 (lt_16 (lt_16 (lt_16 (lt_6 lt_h)))))))))))) gw_instanceMethod
theorem ks_X7_forget : Cond.selects RX7 yX7_forget yX7_forget ∈ sn_gw := sn_gwI (lb_3 (lt_16 (lt_16 (lt_16 (lt_16 (lt_16 (lt_16 (lt_16 (lt_16 (lt_16 (lt_16 (lt_7 lt_h)))))))))))) gw_selects
theorem kl_RX8_296 : sn_LV RX8 296 yX7_forget cX7_forget 1 none 0 := ⟨sn_lv5 km_RX8_296 kin_X7_forget ks_X7_forget ki_RX7 kc_X7_forget, kva_14, kvb_14, kpd_10⟩
theorem kf_RX8_274 : Cond.fieldLink RX8 274 (TX7 1).1 (TX7 1).2.1 (TX7 1).2.2.1 ∈ sn_gw := sn_gwI (lb_1 (lt_3 lt_h)) gw_fieldLink
theorem fd_RX8_274 : sn_Fd RX8 274 7 1 := ⟨RX7, TX7, 5, rfl, ug_X7, by decide, kf_RX8_274⟩
theorem kc_X8_seek : Cond.code yX8_seek cX8_seek 7 (some .int) ∈ sn_gw := sn_gwI (lb_3 (lt_16 (lt_16 (lt_16 (lt_16 (lt_16 (lt_16 (lt_16 (lt_16 (lt_16 (lt_13 lt_h))))))))))) gw_code
theorem km_RX8_271 : Cond.methodLink RX8 271 yX8_seek ∈ sn_gw := sn_gwI (lb_3 (lt_16 (lt_16 (lt_16 (lt_16 (lt_16 (lt_16 (lt_16 (lt_16 (lt_16 (lt_10 lt_h))))))))))) gw_methodLink
theorem kin_X8_seek : Cond.instanceMethod yX8_seek ∈ sn_gw := sn_gwI (lb_3 (lt_16 (lt_16 (lt_16 (lt_16 (lt_16 (lt_16 (lt_16 (lt_16 (lt_16 (lt_12 lt_h))))))))))) gw_instanceMethod
theorem ks_X8_seek : Cond.selects RX8 yX8_seek yX8_seek ∈ sn_gw := sn_gwS (q := (yX8_seek, 12)) (List.mem_of_getElem? (i := 32) rfl) gw_selects
theorem kl_RX8_271 : sn_LV RX8 271 yX8_seek cX8_seek 7 (some .int) 1 := ⟨sn_lv5 km_RX8_271 kin_X8_seek ks_X8_seek ki_RX8 kc_X8_seek, kva_6, kvb_6, kpd_6⟩
theorem kf_RX8_277 : Cond.fieldLink RX8 277 (TX7 2).1 (TX7 2).2.1 (TX7 2).2.2.1 ∈ sn_gw := sn_gwI (lb_1 (lt_5 lt_h)) gw_fieldLink
theorem fd_RX8_277 : sn_Fd RX8 277 7 2 := ⟨RX7, TX7, 5, rfl, ug_X7, by decide, kf_RX8_277⟩
theorem kf_RX8_278 : Cond.fieldLink RX8 278 (TX7 3).1 (TX7 3).2.1 (TX7 3).2.2.1 ∈ sn_gw := sn_gwI (lb_1 (lt_7 lt_h)) gw_fieldLink
theorem fd_RX8_278 : sn_Fd RX8 278 7 3 := ⟨RX7, TX7, 5, rfl, ug_X7, by decide, kf_RX8_278⟩
theorem kc_X7_whomToAsk : Cond.code yX7_whomToAsk cX7_whomToAsk 6 (some .int) ∈ sn_gw := sn_gwI (lb_3 (lt_16 (lt_16 (lt_16 (lt_16 (lt_16 (lt_16 (lt_16 (lt_16 (lt_16 (lt_16 (lt_16 (lt_16 (lt_9 lt_h)))))))))))))) gw_code
theorem km_RX8_281 : Cond.methodLink RX8 281 yX7_whomToAsk ∈ sn_gw := sn_gwI (lb_3 (lt_16 (lt_16 (lt_16 (lt_16 (lt_16 (lt_16 (lt_16 (lt_16 (lt_16 (lt_16 (lt_16 (lt_16 (lt_6 lt_h)))))))))))))) gw_methodLink
theorem kin_X7_whomToAsk : Cond.instanceMethod yX7_whomToAsk ∈ sn_gw := sn_gwI (lb_3 (lt_16 (lt_16 (lt_16 (lt_16 (lt_16 (lt_16 (lt_16 (lt_16 (lt_16 (lt_16 (lt_16 (lt_16 (lt_7 lt_h)))))))))))))) gw_instanceMethod
theorem ks_X7_whomToAsk : Cond.selects RX7 yX7_whomToAsk yX7_whomToAsk ∈ sn_gw := sn_gwI (lb_3 (lt_16 (lt_16 (lt_16 (lt_16 (lt_16 (lt_16 (lt_16 (lt_16 (lt_16 (lt_16 (lt_16 (lt_16 (lt_8 lt_h)))))))))))))) gw_selects
theorem kl_RX8_281 : sn_LV RX8 281 yX7_whomToAsk cX7_whomToAsk 6 (some .int) 1 := ⟨sn_lv5 km_RX8_281 kin_X7_whomToAsk ks_X7_whomToAsk ki_RX7 kc_X7_whomToAsk, kva_14, kvb_14, kpd_6⟩
theorem km_RX8_284 : Cond.methodLink RX8 284 yX7_atWorst ∈ sn_gw := sn_gwI (lb_3 (lt_16 (lt_16 (lt_16 (lt_16 (lt_16 (lt_16 (lt_16 (lt_16 (lt_16 (lt_16 (lt_16 (lt_16 (lt_16 (lt_3 lt_h))))))))))))))) gw_methodLink
theorem kl_RX8_284 : sn_LV RX8 284 yX7_atWorst cX7_atWorst 4 (some .int) 1 := ⟨sn_lv5 km_RX8_284 kin_X7_atWorst ks_X7_atWorst ki_RX7 kc_X7_atWorst, kva_14, kvb_14, kpd_6⟩
theorem kc_X8_lossOf : Cond.code yX8_lossOf cX8_lossOf 6 (some .int) ∈ sn_gw := sn_gwI (lb_3 (lt_16 (lt_16 (lt_16 (lt_16 (lt_16 (lt_16 (lt_16 (lt_16 (lt_16 (lt_16 (lt_16 (lt_16 (lt_16 (lt_11 lt_h))))))))))))))) gw_code
theorem km_RX8_310 : Cond.methodLink RX8 310 yX8_lossOf ∈ sn_gw := sn_gwI (lb_3 (lt_16 (lt_16 (lt_16 (lt_16 (lt_16 (lt_16 (lt_16 (lt_16 (lt_16 (lt_16 (lt_16 (lt_16 (lt_16 (lt_8 lt_h))))))))))))))) gw_methodLink
theorem kin_X8_lossOf : Cond.instanceMethod yX8_lossOf ∈ sn_gw := sn_gwI (lb_3 (lt_16 (lt_16 (lt_16 (lt_16 (lt_16 (lt_16 (lt_16 (lt_16 (lt_16 (lt_16 (lt_16 (lt_16 (lt_16 (lt_10 lt_h))))))))))))))) gw_instanceMethod
theorem ks_X8_lossOf : Cond.selects RX8 yX8_lossOf yX8_lossOf ∈ sn_gw := sn_gwS (q := (yX8_lossOf, 12)) (List.mem_of_getElem? (i := 35) rfl) gw_selects
theorem kl_RX8_310 : sn_LV RX8 310 yX8_lossOf cX8_lossOf 6 (some .int) 4 := ⟨sn_lv5 km_RX8_310 kin_X8_lossOf ks_X8_lossOf ki_RX8 kc_X8_lossOf, kva_6, kvb_6, kpd_17⟩
theorem kk_RX8_317 : Cond.constantLong RX8 317 (-2) ∈ sn_gw := sn_gwI (lb_3 (lt_16 (lt_16 (lt_16 (lt_16 (lt_16 (lt_16 (lt_16 (lt_16 (lt_16 (lt_16 (lt_16 (lt_16 (lt_16 (lt_16 (lt_8 lt_h)))))))))))))))) rfl
theorem kf_RX8_75 : Cond.fieldLink RX8 75 (TX8 11).1 (TX8 11).2.1 (TX8 11).2.2.1 ∈ sn_gw := sn_gwI (lb_1 (lt_16 (lt_16 (lt_16 (lt_11 lt_h))))) gw_fieldLink
theorem fd_RX8_75 : sn_Fd RX8 75 8 11 := ⟨RX8, TX8, 12, rfl, ug_X8, by decide, kf_RX8_75⟩
theorem kf_RX8_326 : Cond.fieldLink RX8 326 (TX4 1).1 (TX4 1).2.1 (TX4 1).2.2.1 ∈ sn_gw := sn_gwI (lb_1 (lt_16 (lt_16 (lt_1 lt_h)))) gw_fieldLink
theorem fd_RX8_326 : sn_Fd RX8 326 4 1 := ⟨RX4, TX4, 5, rfl, ug_X4, by decide, kf_RX8_326⟩
theorem kf_RX8_322 : Cond.fieldLink RX8 322 (TX4 0).1 (TX4 0).2.1 (TX4 0).2.2.1 ∈ sn_gw := sn_gwI (lb_1 (lt_16 (lt_15 lt_h))) gw_fieldLink
theorem fd_RX8_322 : sn_Fd RX8 322 4 0 := ⟨RX4, TX4, 5, rfl, ug_X4, by decide, kf_RX8_322⟩
theorem kc_X8_isPuffMinute : Cond.code yX8_isPuffMinute cX8_isPuffMinute 2 (some .boolean) ∈ sn_gw := sn_gwI (lb_3 (lt_16 (lt_16 (lt_16 (lt_16 (lt_16 (lt_16 (lt_16 (lt_16 (lt_16 (lt_16 (lt_16 (lt_16 (lt_16 (lt_16 (lt_7 lt_h)))))))))))))))) gw_code
theorem km_RX8_314 : Cond.methodLink RX8 314 yX8_isPuffMinute ∈ sn_gw := sn_gwI (lb_3 (lt_16 (lt_16 (lt_16 (lt_16 (lt_16 (lt_16 (lt_16 (lt_16 (lt_16 (lt_16 (lt_16 (lt_16 (lt_16 (lt_16 (lt_4 lt_h)))))))))))))))) gw_methodLink
theorem kin_X8_isPuffMinute : Cond.instanceMethod yX8_isPuffMinute ∈ sn_gw := sn_gwI (lb_3 (lt_16 (lt_16 (lt_16 (lt_16 (lt_16 (lt_16 (lt_16 (lt_16 (lt_16 (lt_16 (lt_16 (lt_16 (lt_16 (lt_16 (lt_6 lt_h)))))))))))))))) gw_instanceMethod
theorem ks_X8_isPuffMinute : Cond.selects RX8 yX8_isPuffMinute yX8_isPuffMinute ∈ sn_gw := sn_gwS (q := (yX8_isPuffMinute, 12)) (List.mem_of_getElem? (i := 36) rfl) gw_selects
theorem kl_RX8_314 : sn_LV RX8 314 yX8_isPuffMinute cX8_isPuffMinute 2 (some .boolean) 1 := ⟨sn_lv5 km_RX8_314 kin_X8_isPuffMinute ks_X8_isPuffMinute ki_RX8 kc_X8_isPuffMinute, kva_6, kvb_6, kpd_16⟩
theorem kc_X4_reckon : Cond.code yX4_reckon cX4_reckon 10 none ∈ sn_gw := sn_gwI (lb_3 (lt_16 (lt_16 (lt_16 (lt_16 (lt_16 (lt_16 (lt_16 (lt_16 (lt_16 (lt_16 (lt_16 (lt_16 (lt_16 (lt_16 (lt_12 lt_h)))))))))))))))) gw_code
theorem km_RX8_319 : Cond.methodLink RX8 319 yX4_reckon ∈ sn_gw := sn_gwI (lb_3 (lt_16 (lt_16 (lt_16 (lt_16 (lt_16 (lt_16 (lt_16 (lt_16 (lt_16 (lt_16 (lt_16 (lt_16 (lt_16 (lt_16 (lt_9 lt_h)))))))))))))))) gw_methodLink
theorem kin_X4_reckon : Cond.instanceMethod yX4_reckon ∈ sn_gw := sn_gwI (lb_3 (lt_16 (lt_16 (lt_16 (lt_16 (lt_16 (lt_16 (lt_16 (lt_16 (lt_16 (lt_16 (lt_16 (lt_16 (lt_16 (lt_16 (lt_10 lt_h)))))))))))))))) gw_instanceMethod
theorem ks_X4_reckon : Cond.selects RX4 yX4_reckon yX4_reckon ∈ sn_gw := sn_gwI (lb_3 (lt_16 (lt_16 (lt_16 (lt_16 (lt_16 (lt_16 (lt_16 (lt_16 (lt_16 (lt_16 (lt_16 (lt_16 (lt_16 (lt_16 (lt_11 lt_h)))))))))))))))) gw_selects
theorem kl_RX8_319 : sn_LV RX8 319 yX4_reckon cX4_reckon 10 none 5 := ⟨sn_lv5 km_RX8_319 kin_X4_reckon ks_X4_reckon ki_RX4 kc_X4_reckon, kva_11, kvb_11, kpd_42⟩
theorem kk_RX8_376 : Cond.constant RX8 376 (2000000000) ∈ sn_gw := sn_gwI (lb_4 (lt_16 (lt_16 lt_h))) rfl
theorem kk_RX8_335 : Cond.constantLong RX8 335 (1103515245) ∈ sn_gw := sn_gwI (lb_4 (lt_16 (lt_16 (lt_5 lt_h)))) rfl
theorem kk_RX8_337 : Cond.constantLong RX8 337 (12345) ∈ sn_gw := sn_gwI (lb_4 (lt_16 (lt_16 (lt_6 lt_h)))) rfl
theorem kk_RX8_339 : Cond.constantLong RX8 339 (2147483648) ∈ sn_gw := sn_gwI (lb_4 (lt_16 (lt_16 (lt_7 lt_h)))) rfl
theorem kk_RX8_341 : Cond.constantLong RX8 341 (65536) ∈ sn_gw := sn_gwI (lb_4 (lt_16 (lt_16 (lt_8 lt_h)))) rfl
theorem kk_RX8_343 : Cond.constantLong RX8 343 (10) ∈ sn_gw := sn_gwI (lb_4 (lt_16 (lt_16 (lt_9 lt_h)))) rfl
theorem kc_X8_isSeed : Cond.code yX8_isSeed cX8_isSeed 1 (some .boolean) ∈ sn_gw := sn_gwI (lb_4 (lt_16 (lt_15 lt_h))) gw_code
theorem km_RX8_329 : Cond.methodLink RX8 329 yX8_isSeed ∈ sn_gw := sn_gwI (lb_4 (lt_16 (lt_13 lt_h))) gw_methodLink
theorem kst_X8_isSeed : Cond.static yX8_isSeed ∈ sn_gw := sn_gwI (lb_4 (lt_16 (lt_14 lt_h))) gw_static
theorem kl_RX8_329 : sn_LS RX8 329 yX8_isSeed cX8_isSeed 1 (some .boolean) 1 := ⟨sn_ls4 km_RX8_329 kst_X8_isSeed ki_RX8 kc_X8_isSeed, kva_6, kvb_6, kpd_16⟩
theorem kc_X8_liveDrawn : Cond.code yX8_liveDrawn cX8_liveDrawn 6 (some .int) ∈ sn_gw := sn_gwI (lb_4 (lt_16 (lt_16 (lt_4 lt_h)))) gw_code
theorem km_RX8_332 : Cond.methodLink RX8 332 yX8_liveDrawn ∈ sn_gw := sn_gwI (lb_4 (lt_16 (lt_16 (lt_1 lt_h)))) gw_methodLink
theorem kin_X8_liveDrawn : Cond.instanceMethod yX8_liveDrawn ∈ sn_gw := sn_gwI (lb_4 (lt_16 (lt_16 (lt_3 lt_h)))) gw_instanceMethod
theorem ks_X8_liveDrawn : Cond.selects RX8 yX8_liveDrawn yX8_liveDrawn ∈ sn_gw := sn_gwS (q := (yX8_liveDrawn, 12)) (List.mem_of_getElem? (i := 40) rfl) gw_selects
theorem kl_RX8_332 : sn_LV RX8 332 yX8_liveDrawn cX8_liveDrawn 6 (some .int) 1 := ⟨sn_lv5 km_RX8_332 kin_X8_liveDrawn ks_X8_liveDrawn ki_RX8 kc_X8_liveDrawn, kva_6, kvb_6, kpd_6⟩
theorem kc_X2_act : Cond.code yX2_act cX2_act 5 (some .boolean) ∈ sn_gw := sn_gwI (lb_4 (lt_16 (lt_16 (lt_16 (lt_5 lt_h))))) gw_code
theorem km_RX8_345 : Cond.methodLink RX8 345 yX2_act ∈ sn_gw := sn_gwI (lb_4 (lt_16 (lt_16 (lt_16 (lt_2 lt_h))))) gw_methodLink
theorem kin_X2_act : Cond.instanceMethod yX2_act ∈ sn_gw := sn_gwI (lb_4 (lt_16 (lt_16 (lt_16 (lt_3 lt_h))))) gw_instanceMethod
theorem ks_X2_act : Cond.selects RX2 yX2_act yX2_act ∈ sn_gw := sn_gwI (lb_4 (lt_16 (lt_16 (lt_16 (lt_4 lt_h))))) gw_selects
theorem kl_RX8_345 : sn_LV RX8 345 yX2_act cX2_act 5 (some .boolean) 3 := ⟨sn_lv5 km_RX8_345 kin_X2_act ks_X2_act ki_RX2 kc_X2_act, kva_5, kvb_5, kpd_43⟩
theorem kf_RX8_349 : Cond.fieldLink RX8 349 (TX2 4).1 (TX2 4).2.1 (TX2 4).2.2.1 ∈ sn_gw := sn_gwI (lb_0 (lt_16 (lt_16 (lt_16 (lt_3 lt_h))))) gw_fieldLink
theorem fd_RX8_349 : sn_Fd RX8 349 2 4 := ⟨RX2, TX2, 6, rfl, ug_X2, by decide, kf_RX8_349⟩
theorem kc_X6_howMany : Cond.code yX6_howMany cX6_howMany 3 (some .int) ∈ sn_gw := sn_gwI (lb_4 (lt_16 (lt_16 (lt_16 (lt_16 (lt_13 lt_h)))))) gw_code
theorem km_RX8_351 : Cond.methodLink RX8 351 yX6_howMany ∈ sn_gw := sn_gwI (lb_4 (lt_16 (lt_16 (lt_16 (lt_16 (lt_10 lt_h)))))) gw_methodLink
theorem kin_X6_howMany : Cond.instanceMethod yX6_howMany ∈ sn_gw := sn_gwI (lb_4 (lt_16 (lt_16 (lt_16 (lt_16 (lt_11 lt_h)))))) gw_instanceMethod
theorem ks_X6_howMany : Cond.selects RX6 yX6_howMany yX6_howMany ∈ sn_gw := sn_gwI (lb_4 (lt_16 (lt_16 (lt_16 (lt_16 (lt_12 lt_h)))))) gw_selects
theorem kl_RX8_351 : sn_LV RX8 351 yX6_howMany cX6_howMany 3 (some .int) 0 := ⟨sn_lv5 km_RX8_351 kin_X6_howMany ks_X6_howMany ki_RX6 kc_X6_howMany, kva_13, kvb_13, kpd_7⟩
theorem kf_RX8_19 : Cond.fieldLink RX8 19 (TX8 2).1 (TX8 2).2.1 (TX8 2).2.2.1 ∈ sn_gw := sn_gwI (lb_1 (lt_16 (lt_16 (lt_16 (lt_2 lt_h))))) gw_fieldLink
theorem fd_RX8_19 : sn_Fd RX8 19 8 2 := ⟨RX8, TX8, 12, rfl, ug_X8, by decide, kf_RX8_19⟩
theorem kf_RX8_23 : Cond.fieldLink RX8 23 (TX8 3).1 (TX8 3).2.1 (TX8 3).2.2.1 ∈ sn_gw := sn_gwI (lb_1 (lt_16 (lt_16 (lt_16 (lt_3 lt_h))))) gw_fieldLink
theorem fd_RX8_23 : sn_Fd RX8 23 8 3 := ⟨RX8, TX8, 12, rfl, ug_X8, by decide, kf_RX8_23⟩
theorem kc_X6_make : Cond.code yX6_make cX6_make 4 none ∈ sn_gw := sn_gwI (lb_4 (lt_16 (lt_16 (lt_16 (lt_16 (lt_16 (lt_14 lt_h))))))) gw_code
theorem km_RX8_354 : Cond.methodLink RX8 354 yX6_make ∈ sn_gw := sn_gwI (lb_4 (lt_16 (lt_16 (lt_16 (lt_16 (lt_16 (lt_11 lt_h))))))) gw_methodLink
theorem kin_X6_make : Cond.instanceMethod yX6_make ∈ sn_gw := sn_gwI (lb_4 (lt_16 (lt_16 (lt_16 (lt_16 (lt_16 (lt_12 lt_h))))))) gw_instanceMethod
theorem ks_X6_make : Cond.selects RX6 yX6_make yX6_make ∈ sn_gw := sn_gwI (lb_4 (lt_16 (lt_16 (lt_16 (lt_16 (lt_16 (lt_13 lt_h))))))) gw_selects
theorem kl_RX8_354 : sn_LV RX8 354 yX6_make cX6_make 4 none 3 := ⟨sn_lv5 km_RX8_354 kin_X6_make ks_X6_make ki_RX6 kc_X6_make, kva_13, kvb_13, kpd_25⟩
theorem kc_X6_put : Cond.code yX6_put cX6_put 5 none ∈ sn_gw := sn_gwI (lb_4 (lt_16 (lt_16 (lt_16 (lt_16 (lt_16 (lt_16 (lt_7 lt_h)))))))) gw_code
theorem km_RX8_358 : Cond.methodLink RX8 358 yX6_put ∈ sn_gw := sn_gwI (lb_4 (lt_16 (lt_16 (lt_16 (lt_16 (lt_16 (lt_16 (lt_4 lt_h)))))))) gw_methodLink
theorem kin_X6_put : Cond.instanceMethod yX6_put ∈ sn_gw := sn_gwI (lb_4 (lt_16 (lt_16 (lt_16 (lt_16 (lt_16 (lt_16 (lt_5 lt_h)))))))) gw_instanceMethod
theorem ks_X6_put : Cond.selects RX6 yX6_put yX6_put ∈ sn_gw := sn_gwI (lb_4 (lt_16 (lt_16 (lt_16 (lt_16 (lt_16 (lt_16 (lt_6 lt_h)))))))) gw_selects
theorem kl_RX8_358 : sn_LV RX8 358 yX6_put cX6_put 5 none 3 := ⟨sn_lv5 km_RX8_358 kin_X6_put ks_X6_put ki_RX6 kc_X6_put, kva_13, kvb_13, kpd_44⟩
theorem kf_RX8_361 : Cond.fieldLink RX8 361 (TX6 1).1 (TX6 1).2.1 (TX6 1).2.2.1 ∈ sn_gw := sn_gwI (lb_0 (lt_16 (lt_16 (lt_16 (lt_16 (lt_16 (lt_16 (lt_16 (lt_5 lt_h))))))))) gw_fieldLink
theorem fd_RX8_361 : sn_Fd RX8 361 6 1 := ⟨RX6, TX6, 3, rfl, ug_X6, by decide, kf_RX8_361⟩
theorem kc_X6_spans : Cond.code yX6_spans cX6_spans 4 (some .boolean) ∈ sn_gw := sn_gwI (lb_4 (lt_16 (lt_16 (lt_16 (lt_16 (lt_16 (lt_16 (lt_15 lt_h)))))))) gw_code
theorem km_RX8_364 : Cond.methodLink RX8 364 yX6_spans ∈ sn_gw := sn_gwI (lb_4 (lt_16 (lt_16 (lt_16 (lt_16 (lt_16 (lt_16 (lt_12 lt_h)))))))) gw_methodLink
theorem kin_X6_spans : Cond.instanceMethod yX6_spans ∈ sn_gw := sn_gwI (lb_4 (lt_16 (lt_16 (lt_16 (lt_16 (lt_16 (lt_16 (lt_13 lt_h)))))))) gw_instanceMethod
theorem ks_X6_spans : Cond.selects RX6 yX6_spans yX6_spans ∈ sn_gw := sn_gwI (lb_4 (lt_16 (lt_16 (lt_16 (lt_16 (lt_16 (lt_16 (lt_14 lt_h)))))))) gw_selects
theorem kl_RX8_364 : sn_LV RX8 364 yX6_spans cX6_spans 4 (some .boolean) 3 := ⟨sn_lv5 km_RX8_364 kin_X6_spans ks_X6_spans ki_RX6 kc_X6_spans, kva_13, kvb_13, kpd_43⟩
theorem km_RX8_367 : Cond.methodLink RX8 367 arraycopyName ∈ sn_gw := sn_gwI (lb_4 (lt_16 (lt_16 (lt_16 (lt_16 (lt_16 (lt_16 (lt_16 lt_h)))))))) gw_methodLink
end
section
/-! the words: their lengths and letters, by the JDK's own methods -/
def sn_slen (k : Nat) : Option Int32 := if k < 16 then some (Int32.ofNat (sn_len.getD k 0)) else none
def sn_sat (k : Nat) (i : Int32) : Option Int32 := if k < 16 ∧ sn_in i (sn_len.getD k 0) = true then some ((sn_byt.getD k []).getD i.toNatClampNeg 0) else none
theorem sn_slen_ok : ∀ k, k < 16 → Int32.ofNat (sn_len.getD k 0) >>> ((0 : Int32) &&& 31) = Int32.ofNat (sn_len.getD k 0) := by decide +kernel
theorem sn_sat_ok : ∀ k, k < 16 → ∀ j, j < 8 → ((((sn_byt.getD k []).getD j 0 &&& (255 : Int32)).toUInt32 % 65536).toInt32 = (sn_byt.getD k []).getD j 0) ∧ narrow .char (.int ((sn_byt.getD k []).getD j 0)) = .int ((sn_byt.getD k []).getD j 0) := by decide +kernel
theorem sn_len8 : ∀ k, k < 16 → sn_len.getD k 0 < 8 := by decide +kernel
section STR
variable {p : Program} {l : Launch} {e : Env} {R : Room} {s : State} {m : MethodId} {args : Array Value} {below : List Frame} {meth : Method} {c : Code} {H : Heap} {locs : List Loc} {Q : State → Prop}
variable {cc : ByteArray} {pc nL : Nat} {ls : Array Slot} {own : String} {ret : Option FieldType} {D : va_G} {ct : Nat → ClassId} {ad : Nat → Nat} {lay : List sn_E} {A : Nat → Prop} {σ : sn_S}
theorem sn_nret {ty : FieldType} {v : Int32} (C : sn_C p s m args meth c own cc nL (some ty) D ct ad lay A) (h : sn_H s D ct ad lay A σ H locs) (hn : narrow ty (.int v) = .int v) (hd : decode cc pc = .ok (.ireturn, 1)) : W p l e R s m args below meth c H locs 0 0 (MQ below (sn_Q D ct ad lay A (some (.int v)) σ) args s 0 0 A) (F0 m pc ls [.int v]) := by
  obtain ⟨hx, hb, hml, hown, hts, hr, hlk, hK, hD, hG⟩ := C
  exact W.zret hx hb hr hn (fun t ht hW => ⟨rfl, by rw [ht]; exact h.1, h.2.F ht⟩) h.2.2.2 hd hlk
theorem sn_callStr {index mL n k : Nat} {y : MethodName} {cy : ByteArray} {ry : Option FieldType} {rm : Room} {As : (Nat → Nat) → List Value} {x : Int32} {st0 : List Value} (rest : List Value) (hyc : y.cls = "java/lang/String") (hk16 : k < 16)
    (C : sn_C p s m args meth c own cc nL ret D ct ad lay A) (h : sn_H s D ct ad lay A σ H locs) (hM : sn_M l y cy mL ry rm lay (fun ad => .ref (ad (1000 + k)) :: As ad) σ (some (fun _ => .int x)) σ) (L : sn_LV own index y cy mL ry n) (hR : sn_fit rm R mL = true) (hn : (As ad).length = n)
    (hst : st0 = (As ad).reverse ++ .ref (ad (1000 + k)) :: rest) (hsum : sn_sum rest ≤ 8) (hd : decode cc pc = .ok (.invokevirtual index, 3)) (hls : ls.size = nL)
    (kk : ∀ (H : Heap) (locs : List Loc), sn_H s D ct ad lay A σ H locs → W p l e R s m args below meth c H locs 0 0 Q (F0 m (pc + 3) ls (.int x :: rest))) : W p l e R s m args below meth c H locs 0 0 Q (F0 m pc ls st0) := by
  obtain ⟨hfit, hc0, hs0⟩ := sn_fit_spec hR
  have C' := C
  obtain ⟨hx, hb, hml, hown, hts, hr, hlk, hK, hD, hG⟩ := C
  have hv := vk_recv (hG.1 k hk16) (i := 0) (by decide) h.2
  rw [← hyc] at hv
  refine sn_goon (mc := 0) (ms := 0) (v := some (.int x)) C' h (va_runV (Ts := sn_gw) (As := As ad) (rest := rest) (n := n) ⟨hx, hb, hml, hown, hts⟩ (hM D ct ad A) (cwV n hts (sn_good L.1) rfl hc0 hs0 ⟨rfl, L.2⟩ hfit) ⟨(sn_pre C' h _).1, hv, (sn_pre C' h _).2⟩ rfl hn hls hst (lv_room hsum) hd ⟨Nat.zero_le _, Nat.zero_le _⟩) kk
theorem sn_getCS {index : Nat} {rest : List Value} (C : sn_C p s m args meth c own cc nL ret D ct ad lay A) (h : sn_H s D ct ad lay A σ H locs) (hw : Cond.fieldLink own index "java/lang/String" "COMPACT_STRINGS" "Z" ∈ sn_gw) (hd : decode cc pc = .ok (.getstatic index, 3))
    (kk : W p l e R s m args below meth c H locs 0 0 Q (F0 m (pc + 3) ls (.int 1 :: rest))) : W p l e R s m args below meth c H locs 0 0 Q (F0 m pc ls rest) := by
  obtain ⟨hx, hb, hml, hown, hts, hr, hlk, hK, hD, hG⟩ := C
  exact va_gets hx hb hG.2.2.1 h.2 hown (hts _ hw) (fun _ z => z) hd kk
theorem sn_getSI {index : Nat} {rest : List Value} (C : sn_C p s m args meth c own cc nL ret D ct ad lay A) (h : sn_H s D ct ad lay A σ H locs) (hw : Cond.fieldLink own index "jdk/internal/util/Preconditions" "SIOOBE_FORMATTER" "Ljava/util/function/BiFunction;" ∈ sn_gw) (hd : decode cc pc = .ok (.getstatic index, 3))
    (kk : ∀ w : Value, (w = .null ∨ ∃ a, w = .ref a) → W p l e R s m args below meth c H locs 0 0 Q (F0 m (pc + 3) ls (w :: rest))) : W p l e R s m args below meth c H locs 0 0 Q (F0 m pc ls rest) := by
  obtain ⟨hx, hb, hml, hown, hts, hr, hlk, hK, hD, hG⟩ := C
  rcases hG.2.2.2.1 with hZ | ⟨t, hZ⟩
  · exact va_gets hx hb hZ h.2 hown (hts _ hw) (fun _ z => z) hd (kk _ (Or.inl rfl))
  · exact va_gets hx hb hZ h.2 hown (hts _ hw) (fun _ z => z) hd (kk _ (Or.inr ⟨t, rfl⟩))
theorem sn_getSc {index k : Nat} {rest : List Value} (hk : k < 16) (C : sn_C p s m args meth c own cc nL ret D ct ad lay A) (h : sn_H s D ct ad lay A σ H locs) (hw : Cond.fieldLink own index "java/lang/String" "coder" "B" ∈ sn_gw) (hd : decode cc pc = .ok (.getfield index, 3))
    (kk : W p l e R s m args below meth c H locs 0 0 Q (F0 m (pc + 3) ls (.int 0 :: rest))) : W p l e R s m args below meth c H locs 0 0 Q (F0 m pc ls (.ref (ad (1000 + k)) :: rest)) := by
  obtain ⟨hx, hb, hml, hown, hts, hr, hlk, hK, hD, hG⟩ := C
  exact vk_getf hx hb ((hG.1 k hk).1 0 (by decide)).2.1 h.2 hown (hts _ hw) (fun _ z => z) hd kk
theorem sn_getSv {index k : Nat} {rest : List Value} (hk : k < 16) (C : sn_C p s m args meth c own cc nL ret D ct ad lay A) (h : sn_H s D ct ad lay A σ H locs) (hw : Cond.fieldLink own index "java/lang/String" "value" "[B" ∈ sn_gw) (hd : decode cc pc = .ok (.getfield index, 3))
    (kk : W p l e R s m args below meth c H locs 0 0 Q (F0 m (pc + 3) ls (.ref (ad (2000 + k)) :: rest))) : W p l e R s m args below meth c H locs 0 0 Q (F0 m pc ls (.ref (ad (1000 + k)) :: rest)) := by
  obtain ⟨hx, hb, hml, hown, hts, hr, hlk, hK, hD, hG⟩ := C
  exact vk_getf hx hb ((hG.1 k hk).1 0 (by decide)).2.2.1 h.2 hown (hts _ hw) (fun _ z => z) hd kk
theorem sn_Slen {k : Nat} {rest : List Value} (hk : k < 16) (C : sn_C p s m args meth c own cc nL ret D ct ad lay A) (h : sn_H s D ct ad lay A σ H locs) (hd : decode cc pc = .ok (.arraylength, 1))
    (kk : W p l e R s m args below meth c H locs 0 0 Q (F0 m (pc + 1) ls (.int (Int32.ofNat (sn_len.getD k 0)) :: rest))) : W p l e R s m args below meth c H locs 0 0 Q (F0 m pc ls (.ref (ad (2000 + k)) :: rest)) := by
  obtain ⟨hx, hb, hml, hown, hts, hr, hlk, hK, hD, hG⟩ := C
  exact va_tlen hx hb ((hG.1 k hk).1 0 (by decide)).2.2.2 h.2 rfl hd kk
theorem sn_Sld {k : Nat} {i : Int32} {rest : List Value} (hk : k < 16) (hi : sn_in i (sn_len.getD k 0) = true) (C : sn_C p s m args meth c own cc nL ret D ct ad lay A) (h : sn_H s D ct ad lay A σ H locs) (hd : decode cc pc = .ok (.baload, 1))
    (kk : W p l e R s m args below meth c H locs 0 0 Q (F0 m (pc + 1) ls (.int ((sn_byt.getD k []).getD i.toNatClampNeg 0) :: rest))) : W p l e R s m args below meth c H locs 0 0 Q (F0 m pc ls (.int i :: .ref (ad (2000 + k)) :: rest)) := by
  obtain ⟨hx, hb, hml, hown, hts, hr, hlk, hK, hD, hG⟩ := C
  exact va_tb hx hb ((hG.1 k hk).1 0 (by decide)).2.2.2 h.2 (sn_in_spec hi) rfl hd kk
end STR
abbrev rmJ0_coder : Room := { frames := 0, cells := 0, slots := 0, locals := 0 }
theorem ctJ0_coder (l : Launch) {lay : List sn_E} {σ : sn_S} {k : Nat} (hk : k < 16) : sn_M l yJ0_coder_7d493 cJ0_coder_7d493 1 (some .byte) rmJ0_coder lay (fun ad => [.ref (ad (1000 + k))]) σ (some (fun _ => .int 0)) σ :=
  sn_met (by decide) (fun _ => Nat.le_of_ble_eq_true rfl) (fun p e s m args below meth c ls D ct ad A C hw hl => by
    have hx := C.1
    have hb := C.2.1
    refine sn_getCS C hw kf_RJ0_38 dJ0_coder_7d493_0 ?_
    refine lv_if_eq (tgt := 13) hx hb dJ0_coder_7d493_3 (by decide) (fun q => absurd q (by decide)) (fun _ => ?_)
    refine lv_aload_n hx hb dJ0_coder_7d493_6 rfl (lv_at hl 0 rfl) ?_
    refine sn_getSc hk C hw kf_RJ0_15 dJ0_coder_7d493_7 ?_
    refine lv_goto (tgt := 14) hx hb dJ0_coder_7d493_10 (by decide) ?_
    exact sn_nret C hw rfl dJ0_coder_7d493_14)
theorem ctJ0_isLatin1 (l : Launch) {lay : List sn_E} {σ : sn_S} {k : Nat} (hk : k < 16) : sn_M l yJ0_isLatin1_aae02 cJ0_isLatin1_aae02 1 (some .boolean) rmJ0_coder lay (fun ad => [.ref (ad (1000 + k))]) σ (some (fun _ => .int 1)) σ :=
  sn_met (by decide) (fun _ => Nat.le_of_ble_eq_true rfl) (fun p e s m args below meth c ls D ct ad A C hw hl => by
    have hx := C.1
    have hb := C.2.1
    refine sn_getCS C hw kf_RJ0_38 dJ0_isLatin1_aae02_0 ?_
    refine lv_if_eq (tgt := 17) hx hb dJ0_isLatin1_aae02_3 (by decide) (fun q => absurd q (by decide)) (fun _ => ?_)
    refine lv_aload_n hx hb dJ0_isLatin1_aae02_6 rfl (lv_at hl 0 rfl) ?_
    refine sn_getSc hk C hw kf_RJ0_15 dJ0_isLatin1_aae02_7 ?_
    refine lv_if_ne (tgt := 17) hx hb dJ0_isLatin1_aae02_10 (by decide) (fun q => absurd rfl q) (fun _ => ?_)
    refine lv_iconst (v := 1) hx hb dJ0_isLatin1_aae02_13 rfl ?_
    refine lv_goto (tgt := 18) hx hb dJ0_isLatin1_aae02_14 (by decide) ?_
    exact sn_zret C hw rfl dJ0_isLatin1_aae02_18)
abbrev rmJ0_length : Room := { frames := 1, cells := 0, slots := 0, locals := 20 }
theorem ctJ0_length (l : Launch) {lay : List sn_E} {σ : sn_S} {k : Nat} (hk : k < 16) : sn_M l yJ0_length_8abf5 cJ0_length_8abf5 1 (some .int) rmJ0_length lay (fun ad => [.ref (ad (1000 + k))]) σ (some (fun _ => .int (Int32.ofNat (sn_len.getD k 0)))) σ :=
  sn_met (by decide) (fun _ => Nat.le_of_ble_eq_true rfl) (fun p e s m args below meth c ls D ct ad A C hw hl => by
    have hx := C.1
    have hb := C.2.1
    refine lv_aload_n hx hb dJ0_length_8abf5_0 rfl (lv_at hl 0 rfl) ?_
    refine sn_getSv hk C hw kf_RJ0_9 dJ0_length_8abf5_1 ?_
    refine sn_Slen hk C hw dJ0_length_8abf5_4 ?_
    refine lv_aload_n hx hb dJ0_length_8abf5_5 rfl (lv_at hl 0 rfl) ?_
    refine sn_callStr (As := fun _ => []) [.int (Int32.ofNat (sn_len.getD k 0))] rfl hk C hw (ctJ0_coder l hk) kl_RJ0_335 rfl rfl rfl (Nat.le_of_ble_eq_true rfl) dJ0_length_8abf5_6 hl.1 (fun H locs hw => ?_)
    refine lv_ishr hx hb dJ0_length_8abf5_9 ?_
    rw [sn_slen_ok k hk]
    exact sn_iret C hw dJ0_length_8abf5_10)
theorem ctJ3_checkIndex (l : Launch) {lay : List sn_E} {σ : sn_S} {i n : Int32} {w : Value} (hw0 : w = .null ∨ ∃ a, w = .ref a) (h0 : 0 ≤ i) (h1 : i < n) : sn_M l yJ3_checkIndex_8e157 cJ3_checkIndex_8e157 3 (some .int) rmJ0_coder lay (fun _ => [.int i, .int n, w]) σ (some (fun _ => .int i)) σ :=
  sn_met (by decide) (fun _ => by rcases hw0 with rfl | ⟨a, rfl⟩ <;> exact Nat.le_of_ble_eq_true rfl) (fun p e s m args below meth c ls D ct ad A C hw hl => by
    have hx := C.1
    have hb := C.2.1
    have hl : lv_has ls 3 [(0, .int i), (1, .int n), (2, w)] := hl
    refine lv_iload_n hx hb dJ3_checkIndex_8e157_0 rfl (lv_at hl 0 rfl) ?_
    refine lv_if_lt (tgt := 9) hx hb dJ3_checkIndex_8e157_1 (by decide) (fun q => absurd q (Int32.not_lt.mpr h0)) (fun _ => ?_)
    refine lv_iload_n hx hb dJ3_checkIndex_8e157_4 rfl (lv_at hl 0 rfl) ?_
    refine lv_iload_n hx hb dJ3_checkIndex_8e157_5 rfl (lv_at hl 1 rfl) ?_
    refine lv_icmp_lt (tgt := 16) hx hb dJ3_checkIndex_8e157_6 (by decide) (fun _ => ?_) (fun q => absurd h1 q)
    refine lv_iload_n hx hb dJ3_checkIndex_8e157_16 rfl (lv_at hl 0 rfl) ?_
    exact sn_iret C hw dJ3_checkIndex_8e157_17)
abbrev rmJ0_checkIndex : Room := { frames := 1, cells := 0, slots := 0, locals := 22 }
theorem ctJ0_checkIndex (l : Launch) {lay : List sn_E} {σ : sn_S} {i n : Int32} (h0 : 0 ≤ i) (h1 : i < n) : sn_M l yJ0_checkIndex_df160 cJ0_checkIndex_df160 2 none rmJ0_checkIndex lay (fun _ => [.int i, .int n]) σ none σ :=
  sn_met (by decide) (fun _ => Nat.le_of_ble_eq_true rfl) (fun p e s m args below meth c ls D ct ad A C hw hl => by
    have hx := C.1
    have hb := C.2.1
    refine lv_iload_n hx hb dJ0_checkIndex_df160_0 rfl (lv_at hl 0 rfl) ?_
    refine lv_iload_n hx hb dJ0_checkIndex_df160_1 rfl (lv_at hl 1 rfl) ?_
    refine sn_getSI C hw kf_RJ0_1053 dJ0_checkIndex_df160_2 (fun w hw0 => ?_)
    refine sn_callSi (rest := []) C hw (ctJ3_checkIndex l hw0 h0 h1) kl_RJ0_1059 rfl rfl rfl (Nat.le_of_ble_eq_true rfl) dJ0_checkIndex_df160_5 hl.1 (fun H locs hw => ?_)
    refine lv_pop hx hb dJ0_checkIndex_df160_8 rfl ?_
    exact sn_vret C hw dJ0_checkIndex_df160_9)
abbrev rmJ1_charAt : Room := { frames := 2, cells := 0, slots := 0, locals := 43 }
theorem sn_inlt {k : Nat} (hk : k < 16) {i : Int32} (hi : sn_in i (sn_len.getD k 0) = true) : 0 ≤ i ∧ i < Int32.ofNat (sn_len.getD k 0) := by
  have h8 := sn_len8 k hk
  unfold sn_in at hi
  simp only [Bool.and_eq_true, decide_eq_true_eq] at hi
  refine ⟨hi.1, ?_⟩
  generalize sn_len.getD k 0 = n at hi h8
  rw [Int32.lt_iff_toInt_lt]
  have h1 : 0 ≤ i.toInt := by have := Int32.le_iff_toInt_le.mp hi.1; simpa using this
  have h2 : i.toInt.toNat < n := hi.2
  have h3 : (Int32.ofNat n).toInt = n := Int32.toInt_ofNat_of_lt (by omega)
  rw [h3]
  omega
theorem ctJ1_charAt (l : Launch) {lay : List sn_E} {σ : sn_S} {k : Nat} {i : Int32} (hk : k < 16) (hi : sn_in i (sn_len.getD k 0) = true) : sn_M l yJ1_charAt_3b067 cJ1_charAt_3b067 2 (some .char) rmJ1_charAt lay (fun ad => [.ref (ad (2000 + k)), .int i]) σ (some (fun _ => .int ((sn_byt.getD k []).getD i.toNatClampNeg 0))) σ :=
  sn_met (by decide) (fun _ => Nat.le_of_ble_eq_true rfl) (fun p e s m args below meth c ls D ct ad A C hw hl => by
    have hx := C.1
    have hb := C.2.1
    obtain ⟨h0, h1⟩ := sn_inlt hk hi
    obtain ⟨g1, g2⟩ := sn_sat_ok k hk i.toNatClampNeg (Nat.lt_trans (sn_in_nat hi) (sn_len8 k hk))
    refine lv_iload_n hx hb dJ1_charAt_3b067_0 rfl (lv_at hl 1 rfl) ?_
    refine lv_aload_n hx hb dJ1_charAt_3b067_1 rfl (lv_at hl 0 rfl) ?_
    refine sn_Slen hk C hw dJ1_charAt_3b067_2 ?_
    refine sn_callSv (rest := []) C hw (ctJ0_checkIndex l h0 h1) kl_RJ1_9 rfl rfl rfl (Nat.le_of_ble_eq_true rfl) dJ1_charAt_3b067_3 hl.1 (fun H locs hw => ?_)
    refine lv_aload_n hx hb dJ1_charAt_3b067_6 rfl (lv_at hl 0 rfl) ?_
    refine lv_iload_n hx hb dJ1_charAt_3b067_7 rfl (lv_at hl 1 rfl) ?_
    refine sn_Sld hk hi C hw dJ1_charAt_3b067_8 ?_
    refine lv_sipush (v := 255) hx hb dJ1_charAt_3b067_9 (by decide) ?_
    refine lv_iand hx hb dJ1_charAt_3b067_12 ?_
    refine lv_i2c hx hb dJ1_charAt_3b067_13 g1 ?_
    exact sn_nret C hw g2 dJ1_charAt_3b067_14)
abbrev rmJ0_charAt : Room := { frames := 3, cells := 0, slots := 0, locals := 64 }
theorem ctJ0_charAt (l : Launch) {lay : List sn_E} {σ : sn_S} {k : Nat} {i : Int32} (hk : k < 16) (hi : sn_in i (sn_len.getD k 0) = true) : sn_M l yJ0_charAt_5068e cJ0_charAt_5068e 2 (some .char) rmJ0_charAt lay (fun ad => [.ref (ad (1000 + k)), .int i]) σ (some (fun _ => .int ((sn_byt.getD k []).getD i.toNatClampNeg 0))) σ :=
  sn_met (by decide) (fun _ => Nat.le_of_ble_eq_true rfl) (fun p e s m args below meth c ls D ct ad A C hw hl => by
    have hx := C.1
    have hb := C.2.1
    obtain ⟨g1, g2⟩ := sn_sat_ok k hk i.toNatClampNeg (Nat.lt_trans (sn_in_nat hi) (sn_len8 k hk))
    refine lv_aload_n hx hb dJ0_charAt_5068e_0 rfl (lv_at hl 0 rfl) ?_
    refine sn_callStr (As := fun _ => []) [] rfl hk C hw (ctJ0_isLatin1 l hk) kl_RJ0_492 rfl rfl rfl (Nat.le_of_ble_eq_true rfl) dJ0_charAt_5068e_1 hl.1 (fun H locs hw => ?_)
    refine lv_if_eq (tgt := 16) hx hb dJ0_charAt_5068e_4 (by decide) (fun q => absurd q (by decide)) (fun _ => ?_)
    refine lv_aload_n hx hb dJ0_charAt_5068e_7 rfl (lv_at hl 0 rfl) ?_
    refine sn_getSv hk C hw kf_RJ0_9 dJ0_charAt_5068e_8 ?_
    refine lv_iload_n hx hb dJ0_charAt_5068e_11 rfl (lv_at hl 1 rfl) ?_
    refine sn_callSi (rest := []) C hw (ctJ1_charAt l hk hi) kl_RJ0_495 rfl rfl rfl (Nat.le_of_ble_eq_true rfl) dJ0_charAt_5068e_12 hl.1 (fun H locs hw => ?_)
    exact sn_nret C hw g2 dJ0_charAt_5068e_15)
section STR2
variable {p : Program} {l : Launch} {e : Env} {R : Room} {s : State} {m : MethodId} {args : Array Value} {below : List Frame} {meth : Method} {c : Code} {H : Heap} {locs : List Loc} {Q : State → Prop}
variable {cc : ByteArray} {pc nL : Nat} {ls : Array Slot} {own : String} {ret : Option FieldType} {D : va_G} {ct : Nat → ClassId} {ad : Nat → Nat} {lay : List sn_E} {A : Nat → Prop} {σ : sn_S}
theorem sn_strlen {index k : Nat} {v : Int32} (rest : List Value) (C : sn_C p s m args meth c own cc nL ret D ct ad lay A) (h : sn_H s D ct ad lay A σ H locs) (hv : sn_slen k = some v) (L : sn_LV own index yJ0_length_8abf5 cJ0_length_8abf5 1 (some .int) 0) (hR : sn_fit rmJ0_length R 1 = true) (hsum : sn_sum rest ≤ 8) (hd : decode cc pc = .ok (.invokevirtual index, 3)) (hls : ls.size = nL)
    (kk : ∀ (H : Heap) (locs : List Loc), sn_H s D ct ad lay A σ H locs → W p l e R s m args below meth c H locs 0 0 Q (F0 m (pc + 3) ls (.int v :: rest))) : W p l e R s m args below meth c H locs 0 0 Q (F0 m pc ls (.ref (ad (1000 + k)) :: rest)) := by
  unfold sn_slen at hv
  split at hv
  · rename_i hk
    cases hv
    exact sn_callStr (As := fun _ => []) rest rfl hk C h (ctJ0_length l hk) L hR rfl rfl hsum hd hls kk
  · cases hv
theorem sn_strat {index k : Nat} {i v : Int32} (rest : List Value) (C : sn_C p s m args meth c own cc nL ret D ct ad lay A) (h : sn_H s D ct ad lay A σ H locs) (hv : sn_sat k i = some v) (L : sn_LV own index yJ0_charAt_5068e cJ0_charAt_5068e 2 (some .char) 1) (hR : sn_fit rmJ0_charAt R 2 = true) (hsum : sn_sum rest ≤ 8) (hd : decode cc pc = .ok (.invokevirtual index, 3)) (hls : ls.size = nL)
    (kk : ∀ (H : Heap) (locs : List Loc), sn_H s D ct ad lay A σ H locs → W p l e R s m args below meth c H locs 0 0 Q (F0 m (pc + 3) ls (.int v :: rest))) : W p l e R s m args below meth c H locs 0 0 Q (F0 m pc ls (.int i :: .ref (ad (1000 + k)) :: rest)) := by
  unfold sn_sat at hv
  split at hv
  · rename_i hk
    cases hv
    exact sn_callStr (As := fun _ => [.int i]) rest rfl hk.1 C h (ctJ0_charAt l hk.1 hk.2) L hR rfl rfl hsum hd hls kk
  · cases hv
end STR2
end
